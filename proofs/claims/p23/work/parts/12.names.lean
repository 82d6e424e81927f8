theorem qf_X1_17 : Cond.fieldLink RX1 17 (TX1 1).1 (TX1 1).2.1 (TX1 1).2.2.1 ∈ gtb := g_tb (List.mem_of_getElem? (i := 144) (by decide +kernel)) (by decide +kernel)
theorem qf_X1_20 : Cond.fieldLink RX1 20 (TX1 2).1 (TX1 2).2.1 (TX1 2).2.2.1 ∈ gtb := g_tb (List.mem_of_getElem? (i := 145) (by decide +kernel)) (by decide +kernel)
theorem qf_X1_23 : Cond.fieldLink RX1 23 (TX1 3).1 (TX1 3).2.1 (TX1 3).2.2.1 ∈ gtb := g_tb (List.mem_of_getElem? (i := 146) (by decide +kernel)) (by decide +kernel)
theorem qf_X1_9 : Cond.fieldLink RX1 9 (TX1 0).1 (TX1 0).2.1 (TX1 0).2.2.1 ∈ gtb := g_tb (List.mem_of_getElem? (i := 143) (by decide +kernel)) (by decide +kernel)
theorem qf_X3_11 : Cond.fieldLink RX3 11 (TX3 0).1 (TX3 0).2.1 (TX3 0).2.2.1 ∈ gtb := g_tb (List.mem_of_getElem? (i := 77) (by decide +kernel)) (by decide +kernel)
theorem qf_X3_16 : Cond.fieldLink RX3 16 (TX3 1).1 (TX3 1).2.1 (TX3 1).2.2.1 ∈ gtb := g_tb (List.mem_of_getElem? (i := 78) (by decide +kernel)) (by decide +kernel)
theorem qf_X3_19 : Cond.fieldLink RX3 19 (TX3 2).1 (TX3 2).2.1 (TX3 2).2.2.1 ∈ gtb := g_tb (List.mem_of_getElem? (i := 79) (by decide +kernel)) (by decide +kernel)
theorem qm_X1_27 : g_siteM RX1 27 Lib.Math.min.name Lib.Math.min.code := ⟨g_tb (List.mem_of_getElem? (i := 333) (by decide +kernel)) (by decide +kernel), g_tb (List.mem_of_getElem? (i := 334) (by decide +kernel)) (by decide +kernel), g_tb (List.mem_of_getElem? (i := 39) (by decide +kernel)) (by decide +kernel), g_tb (List.mem_of_getElem? (i := 335) (by decide +kernel)) (by decide +kernel)⟩
theorem qm_X3_30 : g_siteM RX3 30 Lib.Math.min.name Lib.Math.min.code := ⟨g_tb (List.mem_of_getElem? (i := 486) (by decide +kernel)) (by decide +kernel), g_tb (List.mem_of_getElem? (i := 334) (by decide +kernel)) (by decide +kernel), g_tb (List.mem_of_getElem? (i := 39) (by decide +kernel)) (by decide +kernel), g_tb (List.mem_of_getElem? (i := 335) (by decide +kernel)) (by decide +kernel)⟩
theorem qm_X3_45 : g_siteM RX3 45 Lib.Math.max.name Lib.Math.max.code := ⟨g_tb (List.mem_of_getElem? (i := 472) (by decide +kernel)) (by decide +kernel), g_tb (List.mem_of_getElem? (i := 298) (by decide +kernel)) (by decide +kernel), g_tb (List.mem_of_getElem? (i := 39) (by decide +kernel)) (by decide +kernel), g_tb (List.mem_of_getElem? (i := 299) (by decide +kernel)) (by decide +kernel)⟩
theorem qs_X1_33 : g_site RX1 RX4 33 yX4_forgetMarks cX4_forgetMarks 1 (none) 0 := ⟨g_tb (List.mem_of_getElem? (i := 423) (by decide +kernel)) (by decide +kernel), g_tb (List.mem_of_getElem? (i := 408) (by decide +kernel)) (by decide +kernel), g_tb (List.mem_of_getElem? (i := 409) (by decide +kernel)) (by decide +kernel), g_tb (List.mem_of_getElem? (i := 37) (by decide +kernel)) (by decide +kernel), g_tb (List.mem_of_getElem? (i := 410) (by decide +kernel)) (by decide +kernel), ⟨rfl, by decide, by decide, by decide +kernel⟩, by decide⟩
theorem qs_X1_38 : g_site RX1 RX4 38 yX4_isNode cX4_isNode 2 (some .boolean) 1 := ⟨g_tb (List.mem_of_getElem? (i := 424) (by decide +kernel)) (by decide +kernel), g_tb (List.mem_of_getElem? (i := 354) (by decide +kernel)) (by decide +kernel), g_tb (List.mem_of_getElem? (i := 355) (by decide +kernel)) (by decide +kernel), g_tb (List.mem_of_getElem? (i := 37) (by decide +kernel)) (by decide +kernel), g_tb (List.mem_of_getElem? (i := 356) (by decide +kernel)) (by decide +kernel), ⟨rfl, by decide, by decide, by decide +kernel⟩, by decide⟩
theorem qs_X1_42 : g_site RX1 RX4 42 yX4_nodeOfCode cX4_nodeOfCode 2 (some .int) 1 := ⟨g_tb (List.mem_of_getElem? (i := 425) (by decide +kernel)) (by decide +kernel), g_tb (List.mem_of_getElem? (i := 358) (by decide +kernel)) (by decide +kernel), g_tb (List.mem_of_getElem? (i := 359) (by decide +kernel)) (by decide +kernel), g_tb (List.mem_of_getElem? (i := 37) (by decide +kernel)) (by decide +kernel), g_tb (List.mem_of_getElem? (i := 360) (by decide +kernel)) (by decide +kernel), ⟨rfl, by decide, by decide, by decide +kernel⟩, by decide⟩
theorem qs_X1_46 : g_site RX1 RX4 46 yX4_markWithin cX4_markWithin 5 (none) 1 := ⟨g_tb (List.mem_of_getElem? (i := 426) (by decide +kernel)) (by decide +kernel), g_tb (List.mem_of_getElem? (i := 412) (by decide +kernel)) (by decide +kernel), g_tb (List.mem_of_getElem? (i := 413) (by decide +kernel)) (by decide +kernel), g_tb (List.mem_of_getElem? (i := 37) (by decide +kernel)) (by decide +kernel), g_tb (List.mem_of_getElem? (i := 414) (by decide +kernel)) (by decide +kernel), ⟨rfl, by decide, by decide, by decide +kernel⟩, by decide⟩
theorem qs_X3_26 : g_site RX3 RX3 26 yX3_putFacts cX3_putFacts 6 (none) 4 := ⟨g_tb (List.mem_of_getElem? (i := 460) (by decide +kernel)) (by decide +kernel), g_tb (List.mem_of_getElem? (i := 462) (by decide +kernel)) (by decide +kernel), g_tb (List.mem_of_getElem? (i := 22) (by decide +kernel)) (by decide +kernel), g_tb (List.mem_of_getElem? (i := 35) (by decide +kernel)) (by decide +kernel), g_tb (List.mem_of_getElem? (i := 463) (by decide +kernel)) (by decide +kernel), ⟨rfl, by decide, by decide, by decide +kernel⟩, by decide⟩
theorem qs_X3_36 : g_site RX3 RX3 36 yX3_variablesIn cX3_variablesIn 5 (some .int) 2 := ⟨g_tb (List.mem_of_getElem? (i := 464) (by decide +kernel)) (by decide +kernel), g_tb (List.mem_of_getElem? (i := 466) (by decide +kernel)) (by decide +kernel), g_tb (List.mem_of_getElem? (i := 23) (by decide +kernel)) (by decide +kernel), g_tb (List.mem_of_getElem? (i := 35) (by decide +kernel)) (by decide +kernel), g_tb (List.mem_of_getElem? (i := 467) (by decide +kernel)) (by decide +kernel), ⟨rfl, by decide, by decide, by decide +kernel⟩, by decide⟩
theorem qs_X3_39 : g_site RX3 RX3 39 yX3_depthOf cX3_depthOf 6 (some .int) 2 := ⟨g_tb (List.mem_of_getElem? (i := 473) (by decide +kernel)) (by decide +kernel), g_tb (List.mem_of_getElem? (i := 475) (by decide +kernel)) (by decide +kernel), g_tb (List.mem_of_getElem? (i := 24) (by decide +kernel)) (by decide +kernel), g_tb (List.mem_of_getElem? (i := 35) (by decide +kernel)) (by decide +kernel), g_tb (List.mem_of_getElem? (i := 476) (by decide +kernel)) (by decide +kernel), ⟨rfl, by decide, by decide, by decide +kernel⟩, by decide⟩
theorem qs_X3_42 : g_site RX3 RX3 42 yX3_codeAt cX3_codeAt 4 (some .int) 2 := ⟨g_tb (List.mem_of_getElem? (i := 468) (by decide +kernel)) (by decide +kernel), g_tb (List.mem_of_getElem? (i := 469) (by decide +kernel)) (by decide +kernel), g_tb (List.mem_of_getElem? (i := 470) (by decide +kernel)) (by decide +kernel), g_tb (List.mem_of_getElem? (i := 35) (by decide +kernel)) (by decide +kernel), g_tb (List.mem_of_getElem? (i := 471) (by decide +kernel)) (by decide +kernel), ⟨rfl, by decide, by decide, by decide +kernel⟩, by decide⟩
theorem qs_X3_48 : g_site RX3 RX3 48 yX3_isPair cX3_isPair 2 (some .boolean) 1 := ⟨g_tb (List.mem_of_getElem? (i := 477) (by decide +kernel)) (by decide +kernel), g_tb (List.mem_of_getElem? (i := 479) (by decide +kernel)) (by decide +kernel), g_tb (List.mem_of_getElem? (i := 25) (by decide +kernel)) (by decide +kernel), g_tb (List.mem_of_getElem? (i := 35) (by decide +kernel)) (by decide +kernel), g_tb (List.mem_of_getElem? (i := 480) (by decide +kernel)) (by decide +kernel), ⟨rfl, by decide, by decide, by decide +kernel⟩, by decide⟩
theorem qs_X3_52 : g_site RX3 RX3 52 yX3_fact cX3_fact 4 (some .int) 2 := ⟨g_tb (List.mem_of_getElem? (i := 584) (by decide +kernel)) (by decide +kernel), g_tb (List.mem_of_getElem? (i := 556) (by decide +kernel)) (by decide +kernel), g_tb (List.mem_of_getElem? (i := 557) (by decide +kernel)) (by decide +kernel), g_tb (List.mem_of_getElem? (i := 35) (by decide +kernel)) (by decide +kernel), g_tb (List.mem_of_getElem? (i := 558) (by decide +kernel)) (by decide +kernel), ⟨rfl, by decide, by decide, by decide +kernel⟩, by decide⟩
theorem gu_1 : ∀ w ∈ wsX10, w ∈ gtb := by decide +kernel
theorem gu_3 : ∀ w ∈ wsX30, w ∈ gtb := by decide +kernel
theorem dX1_clear_0 : decode cX1_clear 0 = .ok (.aload_n 0, 1) := by decide +kernel
theorem dX1_clear_1 : decode cX1_clear 1 = .ok (.iconst 0, 1) := by decide +kernel
theorem dX1_clear_2 : decode cX1_clear 2 = .ok (.putfield 23, 3) := by decide +kernel
theorem dX1_clear_5 : decode cX1_clear 5 = .ok (.return_, 1) := by decide +kernel
theorem dX1_put_0 : decode cX1_put 0 = .ok (.aload_n 0, 1) := by decide +kernel
theorem dX1_put_1 : decode cX1_put 1 = .ok (.getfield 23, 3) := by decide +kernel
theorem dX1_put_4 : decode cX1_put 4 = .ok (.ifCond .lt 12, 3) := by decide +kernel
theorem dX1_put_7 : decode cX1_put 7 = .ok (.aload_n 0, 1) := by decide +kernel
theorem dX1_put_8 : decode cX1_put 8 = .ok (.getfield 23, 3) := by decide +kernel
theorem dX1_put_11 : decode cX1_put 11 = .ok (.bipush 40, 2) := by decide +kernel
theorem dX1_put_13 : decode cX1_put 13 = .ok (.if_icmp .lt 4, 3) := by decide +kernel
theorem dX1_put_16 : decode cX1_put 16 = .ok (.return_, 1) := by decide +kernel
theorem dX1_put_17 : decode cX1_put 17 = .ok (.aload_n 0, 1) := by decide +kernel
theorem dX1_put_18 : decode cX1_put 18 = .ok (.getfield 17, 3) := by decide +kernel
theorem dX1_put_21 : decode cX1_put 21 = .ok (.aload_n 0, 1) := by decide +kernel
theorem dX1_put_22 : decode cX1_put 22 = .ok (.getfield 23, 3) := by decide +kernel
theorem dX1_put_25 : decode cX1_put 25 = .ok (.aaload, 1) := by decide +kernel
theorem dX1_put_26 : decode cX1_put 26 = .ok (.astore 4, 2) := by decide +kernel
theorem dX1_put_28 : decode cX1_put 28 = .ok (.iconst 0, 1) := by decide +kernel
theorem dX1_put_29 : decode cX1_put 29 = .ok (.istore 5, 2) := by decide +kernel
theorem dX1_put_31 : decode cX1_put 31 = .ok (.iload 5, 2) := by decide +kernel
theorem dX1_put_33 : decode cX1_put 33 = .ok (.iload_n 3, 1) := by decide +kernel
theorem dX1_put_34 : decode cX1_put 34 = .ok (.if_icmp .ge 33, 3) := by decide +kernel
theorem dX1_put_37 : decode cX1_put 37 = .ok (.iload 5, 2) := by decide +kernel
theorem dX1_put_39 : decode cX1_put 39 = .ok (.aload_n 2, 1) := by decide +kernel
theorem dX1_put_40 : decode cX1_put 40 = .ok (.arraylength, 1) := by decide +kernel
theorem dX1_put_41 : decode cX1_put 41 = .ok (.if_icmp .ge 26, 3) := by decide +kernel
theorem dX1_put_44 : decode cX1_put 44 = .ok (.iload 5, 2) := by decide +kernel
theorem dX1_put_46 : decode cX1_put 46 = .ok (.aload 4, 2) := by decide +kernel
theorem dX1_put_48 : decode cX1_put 48 = .ok (.arraylength, 1) := by decide +kernel
theorem dX1_put_49 : decode cX1_put 49 = .ok (.if_icmp .ge 18, 3) := by decide +kernel
theorem dX1_put_52 : decode cX1_put 52 = .ok (.aload 4, 2) := by decide +kernel
theorem dX1_put_54 : decode cX1_put 54 = .ok (.iload 5, 2) := by decide +kernel
theorem dX1_put_56 : decode cX1_put 56 = .ok (.aload_n 2, 1) := by decide +kernel
theorem dX1_put_57 : decode cX1_put 57 = .ok (.iload 5, 2) := by decide +kernel
theorem dX1_put_59 : decode cX1_put 59 = .ok (.iaload, 1) := by decide +kernel
theorem dX1_put_60 : decode cX1_put 60 = .ok (.iastore, 1) := by decide +kernel
theorem dX1_put_61 : decode cX1_put 61 = .ok (.iinc 5 1, 3) := by decide +kernel
theorem dX1_put_64 : decode cX1_put 64 = .ok (.goto (-33), 3) := by decide +kernel
theorem dX1_put_67 : decode cX1_put 67 = .ok (.aload_n 0, 1) := by decide +kernel
theorem dX1_put_68 : decode cX1_put 68 = .ok (.getfield 9, 3) := by decide +kernel
theorem dX1_put_71 : decode cX1_put 71 = .ok (.aload_n 0, 1) := by decide +kernel
theorem dX1_put_72 : decode cX1_put 72 = .ok (.getfield 23, 3) := by decide +kernel
theorem dX1_put_75 : decode cX1_put 75 = .ok (.iload_n 1, 1) := by decide +kernel
theorem dX1_put_76 : decode cX1_put 76 = .ok (.iastore, 1) := by decide +kernel
theorem dX1_put_77 : decode cX1_put 77 = .ok (.aload_n 0, 1) := by decide +kernel
theorem dX1_put_78 : decode cX1_put 78 = .ok (.getfield 20, 3) := by decide +kernel
theorem dX1_put_81 : decode cX1_put 81 = .ok (.aload_n 0, 1) := by decide +kernel
theorem dX1_put_82 : decode cX1_put 82 = .ok (.getfield 23, 3) := by decide +kernel
theorem dX1_put_85 : decode cX1_put 85 = .ok (.iload_n 3, 1) := by decide +kernel
theorem dX1_put_86 : decode cX1_put 86 = .ok (.aload 4, 2) := by decide +kernel
theorem dX1_put_88 : decode cX1_put 88 = .ok (.arraylength, 1) := by decide +kernel
theorem dX1_put_89 : decode cX1_put 89 = .ok (.invokestatic 27, 3) := by decide +kernel
theorem dX1_put_92 : decode cX1_put 92 = .ok (.iastore, 1) := by decide +kernel
theorem dX1_put_93 : decode cX1_put 93 = .ok (.aload_n 0, 1) := by decide +kernel
theorem dX1_put_94 : decode cX1_put 94 = .ok (.dup, 1) := by decide +kernel
theorem dX1_put_95 : decode cX1_put 95 = .ok (.getfield 23, 3) := by decide +kernel
theorem dX1_put_98 : decode cX1_put 98 = .ok (.iconst 1, 1) := by decide +kernel
theorem dX1_put_99 : decode cX1_put 99 = .ok (.iadd, 1) := by decide +kernel
theorem dX1_put_100 : decode cX1_put 100 = .ok (.putfield 23, 3) := by decide +kernel
theorem dX1_put_103 : decode cX1_put 103 = .ok (.return_, 1) := by decide +kernel
theorem dX1_markAll_0 : decode cX1_markAll 0 = .ok (.aload_n 1, 1) := by decide +kernel
theorem dX1_markAll_1 : decode cX1_markAll 1 = .ok (.invokevirtual 33, 3) := by decide +kernel
theorem dX1_markAll_4 : decode cX1_markAll 4 = .ok (.iconst 0, 1) := by decide +kernel
theorem dX1_markAll_5 : decode cX1_markAll 5 = .ok (.istore_n 2, 1) := by decide +kernel
theorem dX1_markAll_6 : decode cX1_markAll 6 = .ok (.iload_n 2, 1) := by decide +kernel
theorem dX1_markAll_7 : decode cX1_markAll 7 = .ok (.aload_n 0, 1) := by decide +kernel
theorem dX1_markAll_8 : decode cX1_markAll 8 = .ok (.getfield 23, 3) := by decide +kernel
theorem dX1_markAll_11 : decode cX1_markAll 11 = .ok (.if_icmp .ge 72, 3) := by decide +kernel
theorem dX1_markAll_14 : decode cX1_markAll 14 = .ok (.iload_n 2, 1) := by decide +kernel
theorem dX1_markAll_15 : decode cX1_markAll 15 = .ok (.bipush 40, 2) := by decide +kernel
theorem dX1_markAll_17 : decode cX1_markAll 17 = .ok (.if_icmp .ge 66, 3) := by decide +kernel
theorem dX1_markAll_20 : decode cX1_markAll 20 = .ok (.aload_n 0, 1) := by decide +kernel
theorem dX1_markAll_21 : decode cX1_markAll 21 = .ok (.getfield 17, 3) := by decide +kernel
theorem dX1_markAll_24 : decode cX1_markAll 24 = .ok (.iload_n 2, 1) := by decide +kernel
theorem dX1_markAll_25 : decode cX1_markAll 25 = .ok (.aaload, 1) := by decide +kernel
theorem dX1_markAll_26 : decode cX1_markAll 26 = .ok (.astore_n 3, 1) := by decide +kernel
theorem dX1_markAll_27 : decode cX1_markAll 27 = .ok (.iconst 0, 1) := by decide +kernel
theorem dX1_markAll_28 : decode cX1_markAll 28 = .ok (.istore 4, 2) := by decide +kernel
theorem dX1_markAll_30 : decode cX1_markAll 30 = .ok (.iload 4, 2) := by decide +kernel
theorem dX1_markAll_32 : decode cX1_markAll 32 = .ok (.aload_n 0, 1) := by decide +kernel
theorem dX1_markAll_33 : decode cX1_markAll 33 = .ok (.getfield 20, 3) := by decide +kernel
theorem dX1_markAll_36 : decode cX1_markAll 36 = .ok (.iload_n 2, 1) := by decide +kernel
theorem dX1_markAll_37 : decode cX1_markAll 37 = .ok (.iaload, 1) := by decide +kernel
theorem dX1_markAll_38 : decode cX1_markAll 38 = .ok (.if_icmp .ge 39, 3) := by decide +kernel
theorem dX1_markAll_41 : decode cX1_markAll 41 = .ok (.iload 4, 2) := by decide +kernel
theorem dX1_markAll_43 : decode cX1_markAll 43 = .ok (.aload_n 3, 1) := by decide +kernel
theorem dX1_markAll_44 : decode cX1_markAll 44 = .ok (.arraylength, 1) := by decide +kernel
theorem dX1_markAll_45 : decode cX1_markAll 45 = .ok (.if_icmp .ge 32, 3) := by decide +kernel
theorem dX1_markAll_48 : decode cX1_markAll 48 = .ok (.aload_n 1, 1) := by decide +kernel
theorem dX1_markAll_49 : decode cX1_markAll 49 = .ok (.aload_n 3, 1) := by decide +kernel
theorem dX1_markAll_50 : decode cX1_markAll 50 = .ok (.iload 4, 2) := by decide +kernel
theorem dX1_markAll_52 : decode cX1_markAll 52 = .ok (.iaload, 1) := by decide +kernel
theorem dX1_markAll_53 : decode cX1_markAll 53 = .ok (.invokevirtual 38, 3) := by decide +kernel
theorem dX1_markAll_56 : decode cX1_markAll 56 = .ok (.ifCond .eq 15, 3) := by decide +kernel
theorem dX1_markAll_59 : decode cX1_markAll 59 = .ok (.aload_n 1, 1) := by decide +kernel
theorem dX1_markAll_60 : decode cX1_markAll 60 = .ok (.aload_n 1, 1) := by decide +kernel
theorem dX1_markAll_61 : decode cX1_markAll 61 = .ok (.aload_n 3, 1) := by decide +kernel
theorem dX1_markAll_62 : decode cX1_markAll 62 = .ok (.iload 4, 2) := by decide +kernel
theorem dX1_markAll_64 : decode cX1_markAll 64 = .ok (.iaload, 1) := by decide +kernel
theorem dX1_markAll_65 : decode cX1_markAll 65 = .ok (.invokevirtual 42, 3) := by decide +kernel
theorem dX1_markAll_68 : decode cX1_markAll 68 = .ok (.invokevirtual 46, 3) := by decide +kernel
theorem dX1_markAll_71 : decode cX1_markAll 71 = .ok (.iinc 4 1, 3) := by decide +kernel
theorem dX1_markAll_74 : decode cX1_markAll 74 = .ok (.goto (-44), 3) := by decide +kernel
theorem dX1_markAll_77 : decode cX1_markAll 77 = .ok (.iinc 2 1, 3) := by decide +kernel
theorem dX1_markAll_80 : decode cX1_markAll 80 = .ok (.goto (-74), 3) := by decide +kernel
theorem dX1_markAll_83 : decode cX1_markAll 83 = .ok (.return_, 1) := by decide +kernel
theorem dX1_dropLast_0 : decode cX1_dropLast 0 = .ok (.aload_n 0, 1) := by decide +kernel
theorem dX1_dropLast_1 : decode cX1_dropLast 1 = .ok (.getfield 23, 3) := by decide +kernel
theorem dX1_dropLast_4 : decode cX1_dropLast 4 = .ok (.ifCond .le 13, 3) := by decide +kernel
theorem dX1_dropLast_7 : decode cX1_dropLast 7 = .ok (.aload_n 0, 1) := by decide +kernel
theorem dX1_dropLast_8 : decode cX1_dropLast 8 = .ok (.dup, 1) := by decide +kernel
theorem dX1_dropLast_9 : decode cX1_dropLast 9 = .ok (.getfield 23, 3) := by decide +kernel
theorem dX1_dropLast_12 : decode cX1_dropLast 12 = .ok (.iconst 1, 1) := by decide +kernel
theorem dX1_dropLast_13 : decode cX1_dropLast 13 = .ok (.isub, 1) := by decide +kernel
theorem dX1_dropLast_14 : decode cX1_dropLast 14 = .ok (.putfield 23, 3) := by decide +kernel
theorem dX1_dropLast_17 : decode cX1_dropLast 17 = .ok (.return_, 1) := by decide +kernel
theorem dX1_latest_0 : decode cX1_latest 0 = .ok (.aload_n 0, 1) := by decide +kernel
theorem dX1_latest_1 : decode cX1_latest 1 = .ok (.getfield 23, 3) := by decide +kernel
theorem dX1_latest_4 : decode cX1_latest 4 = .ok (.bipush 40, 2) := by decide +kernel
theorem dX1_latest_6 : decode cX1_latest 6 = .ok (.invokestatic 27, 3) := by decide +kernel
theorem dX1_latest_9 : decode cX1_latest 9 = .ok (.iconst 1, 1) := by decide +kernel
theorem dX1_latest_10 : decode cX1_latest 10 = .ok (.isub, 1) := by decide +kernel
theorem dX1_latest_11 : decode cX1_latest 11 = .ok (.istore_n 2, 1) := by decide +kernel
theorem dX1_latest_12 : decode cX1_latest 12 = .ok (.iload_n 2, 1) := by decide +kernel
theorem dX1_latest_13 : decode cX1_latest 13 = .ok (.ifCond .lt 21, 3) := by decide +kernel
theorem dX1_latest_16 : decode cX1_latest 16 = .ok (.aload_n 0, 1) := by decide +kernel
theorem dX1_latest_17 : decode cX1_latest 17 = .ok (.getfield 9, 3) := by decide +kernel
theorem dX1_latest_20 : decode cX1_latest 20 = .ok (.iload_n 2, 1) := by decide +kernel
theorem dX1_latest_21 : decode cX1_latest 21 = .ok (.iaload, 1) := by decide +kernel
theorem dX1_latest_22 : decode cX1_latest 22 = .ok (.iload_n 1, 1) := by decide +kernel
theorem dX1_latest_23 : decode cX1_latest 23 = .ok (.if_icmp .ne 5, 3) := by decide +kernel
theorem dX1_latest_26 : decode cX1_latest 26 = .ok (.iload_n 2, 1) := by decide +kernel
theorem dX1_latest_27 : decode cX1_latest 27 = .ok (.ireturn, 1) := by decide +kernel
theorem dX1_latest_28 : decode cX1_latest 28 = .ok (.iinc 2 (-1), 3) := by decide +kernel
theorem dX1_latest_31 : decode cX1_latest 31 = .ok (.goto (-19), 3) := by decide +kernel
theorem dX1_latest_34 : decode cX1_latest 34 = .ok (.iconst (-1), 1) := by decide +kernel
theorem dX1_latest_35 : decode cX1_latest 35 = .ok (.ireturn, 1) := by decide +kernel
theorem dX1_rowAt_0 : decode cX1_rowAt 0 = .ok (.iload_n 1, 1) := by decide +kernel
theorem dX1_rowAt_1 : decode cX1_rowAt 1 = .ok (.ifCond .lt 18, 3) := by decide +kernel
theorem dX1_rowAt_4 : decode cX1_rowAt 4 = .ok (.iload_n 1, 1) := by decide +kernel
theorem dX1_rowAt_5 : decode cX1_rowAt 5 = .ok (.bipush 40, 2) := by decide +kernel
theorem dX1_rowAt_7 : decode cX1_rowAt 7 = .ok (.if_icmp .ge 12, 3) := by decide +kernel
theorem dX1_rowAt_10 : decode cX1_rowAt 10 = .ok (.aload_n 0, 1) := by decide +kernel
theorem dX1_rowAt_11 : decode cX1_rowAt 11 = .ok (.getfield 17, 3) := by decide +kernel
theorem dX1_rowAt_14 : decode cX1_rowAt 14 = .ok (.iload_n 1, 1) := by decide +kernel
theorem dX1_rowAt_15 : decode cX1_rowAt 15 = .ok (.aaload, 1) := by decide +kernel
theorem dX1_rowAt_16 : decode cX1_rowAt 16 = .ok (.goto 9, 3) := by decide +kernel
theorem dX1_rowAt_19 : decode cX1_rowAt 19 = .ok (.aload_n 0, 1) := by decide +kernel
theorem dX1_rowAt_20 : decode cX1_rowAt 20 = .ok (.getfield 17, 3) := by decide +kernel
theorem dX1_rowAt_23 : decode cX1_rowAt 23 = .ok (.iconst 0, 1) := by decide +kernel
theorem dX1_rowAt_24 : decode cX1_rowAt 24 = .ok (.aaload, 1) := by decide +kernel
theorem dX1_rowAt_25 : decode cX1_rowAt 25 = .ok (.areturn, 1) := by decide +kernel
theorem dX1_lengthAt_0 : decode cX1_lengthAt 0 = .ok (.iload_n 1, 1) := by decide +kernel
theorem dX1_lengthAt_1 : decode cX1_lengthAt 1 = .ok (.ifCond .lt 18, 3) := by decide +kernel
theorem dX1_lengthAt_4 : decode cX1_lengthAt 4 = .ok (.iload_n 1, 1) := by decide +kernel
theorem dX1_lengthAt_5 : decode cX1_lengthAt 5 = .ok (.bipush 40, 2) := by decide +kernel
theorem dX1_lengthAt_7 : decode cX1_lengthAt 7 = .ok (.if_icmp .ge 12, 3) := by decide +kernel
theorem dX1_lengthAt_10 : decode cX1_lengthAt 10 = .ok (.aload_n 0, 1) := by decide +kernel
theorem dX1_lengthAt_11 : decode cX1_lengthAt 11 = .ok (.getfield 20, 3) := by decide +kernel
theorem dX1_lengthAt_14 : decode cX1_lengthAt 14 = .ok (.iload_n 1, 1) := by decide +kernel
theorem dX1_lengthAt_15 : decode cX1_lengthAt 15 = .ok (.iaload, 1) := by decide +kernel
theorem dX1_lengthAt_16 : decode cX1_lengthAt 16 = .ok (.goto 4, 3) := by decide +kernel
theorem dX1_lengthAt_19 : decode cX1_lengthAt 19 = .ok (.iconst 0, 1) := by decide +kernel
theorem dX1_lengthAt_20 : decode cX1_lengthAt 20 = .ok (.ireturn, 1) := by decide +kernel
theorem dX3_fact_0 : decode cX3_fact 0 = .ok (.iload_n 1, 1) := by decide +kernel
theorem dX3_fact_1 : decode cX3_fact 1 = .ok (.ifCond .lt 13, 3) := by decide +kernel
theorem dX3_fact_4 : decode cX3_fact 4 = .ok (.iload_n 1, 1) := by decide +kernel
theorem dX3_fact_5 : decode cX3_fact 5 = .ok (.bipush 40, 2) := by decide +kernel
theorem dX3_fact_7 : decode cX3_fact 7 = .ok (.if_icmp .ge 7, 3) := by decide +kernel
theorem dX3_fact_10 : decode cX3_fact 10 = .ok (.iconst 1, 1) := by decide +kernel
theorem dX3_fact_11 : decode cX3_fact 11 = .ok (.goto 4, 3) := by decide +kernel
theorem dX3_fact_14 : decode cX3_fact 14 = .ok (.iconst 0, 1) := by decide +kernel
theorem dX3_fact_15 : decode cX3_fact 15 = .ok (.istore_n 3, 1) := by decide +kernel
theorem dX3_fact_16 : decode cX3_fact 16 = .ok (.iload_n 3, 1) := by decide +kernel
theorem dX3_fact_17 : decode cX3_fact 17 = .ok (.ifCond .eq 23, 3) := by decide +kernel
theorem dX3_fact_20 : decode cX3_fact 20 = .ok (.iload_n 2, 1) := by decide +kernel
theorem dX3_fact_21 : decode cX3_fact 21 = .ok (.ifCond .lt 19, 3) := by decide +kernel
theorem dX3_fact_24 : decode cX3_fact 24 = .ok (.iload_n 2, 1) := by decide +kernel
theorem dX3_fact_25 : decode cX3_fact 25 = .ok (.iconst 5, 1) := by decide +kernel
theorem dX3_fact_26 : decode cX3_fact 26 = .ok (.if_icmp .ge 14, 3) := by decide +kernel
theorem dX3_fact_29 : decode cX3_fact 29 = .ok (.aload_n 0, 1) := by decide +kernel
theorem dX3_fact_30 : decode cX3_fact 30 = .ok (.getfield 16, 3) := by decide +kernel
theorem dX3_fact_33 : decode cX3_fact 33 = .ok (.iload_n 1, 1) := by decide +kernel
theorem dX3_fact_34 : decode cX3_fact 34 = .ok (.aaload, 1) := by decide +kernel
theorem dX3_fact_35 : decode cX3_fact 35 = .ok (.iload_n 2, 1) := by decide +kernel
theorem dX3_fact_36 : decode cX3_fact 36 = .ok (.iaload, 1) := by decide +kernel
theorem dX3_fact_37 : decode cX3_fact 37 = .ok (.goto 4, 3) := by decide +kernel
theorem dX3_fact_40 : decode cX3_fact 40 = .ok (.iconst 0, 1) := by decide +kernel
theorem dX3_fact_41 : decode cX3_fact 41 = .ok (.ireturn, 1) := by decide +kernel
theorem dX3_codeAt_0 : decode cX3_codeAt 0 = .ok (.iload_n 1, 1) := by decide +kernel
theorem dX3_codeAt_1 : decode cX3_codeAt 1 = .ok (.ifCond .lt 13, 3) := by decide +kernel
theorem dX3_codeAt_4 : decode cX3_codeAt 4 = .ok (.iload_n 1, 1) := by decide +kernel
theorem dX3_codeAt_5 : decode cX3_codeAt 5 = .ok (.bipush 40, 2) := by decide +kernel
theorem dX3_codeAt_7 : decode cX3_codeAt 7 = .ok (.if_icmp .ge 7, 3) := by decide +kernel
theorem dX3_codeAt_10 : decode cX3_codeAt 10 = .ok (.iconst 1, 1) := by decide +kernel
theorem dX3_codeAt_11 : decode cX3_codeAt 11 = .ok (.goto 4, 3) := by decide +kernel
theorem dX3_codeAt_14 : decode cX3_codeAt 14 = .ok (.iconst 0, 1) := by decide +kernel
theorem dX3_codeAt_15 : decode cX3_codeAt 15 = .ok (.istore_n 3, 1) := by decide +kernel
theorem dX3_codeAt_16 : decode cX3_codeAt 16 = .ok (.iload_n 3, 1) := by decide +kernel
theorem dX3_codeAt_17 : decode cX3_codeAt 17 = .ok (.ifCond .eq 24, 3) := by decide +kernel
theorem dX3_codeAt_20 : decode cX3_codeAt 20 = .ok (.iload_n 2, 1) := by decide +kernel
theorem dX3_codeAt_21 : decode cX3_codeAt 21 = .ok (.ifCond .lt 20, 3) := by decide +kernel
theorem dX3_codeAt_24 : decode cX3_codeAt 24 = .ok (.iload_n 2, 1) := by decide +kernel
theorem dX3_codeAt_25 : decode cX3_codeAt 25 = .ok (.bipush 60, 2) := by decide +kernel
theorem dX3_codeAt_27 : decode cX3_codeAt 27 = .ok (.if_icmp .ge 14, 3) := by decide +kernel
theorem dX3_codeAt_30 : decode cX3_codeAt 30 = .ok (.aload_n 0, 1) := by decide +kernel
theorem dX3_codeAt_31 : decode cX3_codeAt 31 = .ok (.getfield 11, 3) := by decide +kernel
theorem dX3_codeAt_34 : decode cX3_codeAt 34 = .ok (.iload_n 1, 1) := by decide +kernel
theorem dX3_codeAt_35 : decode cX3_codeAt 35 = .ok (.aaload, 1) := by decide +kernel
theorem dX3_codeAt_36 : decode cX3_codeAt 36 = .ok (.iload_n 2, 1) := by decide +kernel
theorem dX3_codeAt_37 : decode cX3_codeAt 37 = .ok (.iaload, 1) := by decide +kernel
theorem dX3_codeAt_38 : decode cX3_codeAt 38 = .ok (.goto 4, 3) := by decide +kernel
theorem dX3_codeAt_41 : decode cX3_codeAt 41 = .ok (.iconst 0, 1) := by decide +kernel
theorem dX3_codeAt_42 : decode cX3_codeAt 42 = .ok (.ireturn, 1) := by decide +kernel
theorem dX3_isPair_0 : decode cX3_isPair 0 = .ok (.iload_n 1, 1) := by decide +kernel
theorem dX3_isPair_1 : decode cX3_isPair 1 = .ok (.iconst 2, 1) := by decide +kernel
theorem dX3_isPair_2 : decode cX3_isPair 2 = .ok (.if_icmp .eq 8, 3) := by decide +kernel
theorem dX3_isPair_5 : decode cX3_isPair 5 = .ok (.iload_n 1, 1) := by decide +kernel
theorem dX3_isPair_6 : decode cX3_isPair 6 = .ok (.iconst 3, 1) := by decide +kernel
theorem dX3_isPair_7 : decode cX3_isPair 7 = .ok (.if_icmp .ne 7, 3) := by decide +kernel
theorem dX3_isPair_10 : decode cX3_isPair 10 = .ok (.iconst 1, 1) := by decide +kernel
theorem dX3_isPair_11 : decode cX3_isPair 11 = .ok (.goto 4, 3) := by decide +kernel
theorem dX3_isPair_14 : decode cX3_isPair 14 = .ok (.iconst 0, 1) := by decide +kernel
theorem dX3_isPair_15 : decode cX3_isPair 15 = .ok (.ireturn, 1) := by decide +kernel
theorem dX3_variablesIn_0 : decode cX3_variablesIn 0 = .ok (.iconst 0, 1) := by decide +kernel
theorem dX3_variablesIn_1 : decode cX3_variablesIn 1 = .ok (.istore_n 3, 1) := by decide +kernel
theorem dX3_variablesIn_2 : decode cX3_variablesIn 2 = .ok (.iconst 0, 1) := by decide +kernel
theorem dX3_variablesIn_3 : decode cX3_variablesIn 3 = .ok (.istore 4, 2) := by decide +kernel
theorem dX3_variablesIn_5 : decode cX3_variablesIn 5 = .ok (.iload 4, 2) := by decide +kernel
theorem dX3_variablesIn_7 : decode cX3_variablesIn 7 = .ok (.iload_n 2, 1) := by decide +kernel
theorem dX3_variablesIn_8 : decode cX3_variablesIn 8 = .ok (.if_icmp .ge 26, 3) := by decide +kernel
theorem dX3_variablesIn_11 : decode cX3_variablesIn 11 = .ok (.iload_n 3, 1) := by decide +kernel
theorem dX3_variablesIn_12 : decode cX3_variablesIn 12 = .ok (.aload_n 0, 1) := by decide +kernel
theorem dX3_variablesIn_13 : decode cX3_variablesIn 13 = .ok (.iload_n 1, 1) := by decide +kernel
theorem dX3_variablesIn_14 : decode cX3_variablesIn 14 = .ok (.iload 4, 2) := by decide +kernel
theorem dX3_variablesIn_16 : decode cX3_variablesIn 16 = .ok (.invokevirtual 42, 3) := by decide +kernel
theorem dX3_variablesIn_19 : decode cX3_variablesIn 19 = .ok (.bipush 10, 2) := by decide +kernel
theorem dX3_variablesIn_21 : decode cX3_variablesIn 21 = .ok (.isub, 1) := by decide +kernel
theorem dX3_variablesIn_22 : decode cX3_variablesIn 22 = .ok (.iconst 1, 1) := by decide +kernel
theorem dX3_variablesIn_23 : decode cX3_variablesIn 23 = .ok (.iadd, 1) := by decide +kernel
theorem dX3_variablesIn_24 : decode cX3_variablesIn 24 = .ok (.invokestatic 45, 3) := by decide +kernel
theorem dX3_variablesIn_27 : decode cX3_variablesIn 27 = .ok (.istore_n 3, 1) := by decide +kernel
theorem dX3_variablesIn_28 : decode cX3_variablesIn 28 = .ok (.iinc 4 1, 3) := by decide +kernel
theorem dX3_variablesIn_31 : decode cX3_variablesIn 31 = .ok (.goto (-26), 3) := by decide +kernel
theorem dX3_variablesIn_34 : decode cX3_variablesIn 34 = .ok (.iload_n 3, 1) := by decide +kernel
theorem dX3_variablesIn_35 : decode cX3_variablesIn 35 = .ok (.ireturn, 1) := by decide +kernel
theorem dX3_depthOf_0 : decode cX3_depthOf 0 = .ok (.iconst 0, 1) := by decide +kernel
theorem dX3_depthOf_1 : decode cX3_depthOf 1 = .ok (.istore_n 3, 1) := by decide +kernel
theorem dX3_depthOf_2 : decode cX3_depthOf 2 = .ok (.iload_n 2, 1) := by decide +kernel
theorem dX3_depthOf_3 : decode cX3_depthOf 3 = .ok (.iconst 1, 1) := by decide +kernel
theorem dX3_depthOf_4 : decode cX3_depthOf 4 = .ok (.isub, 1) := by decide +kernel
theorem dX3_depthOf_5 : decode cX3_depthOf 5 = .ok (.istore 4, 2) := by decide +kernel
theorem dX3_depthOf_7 : decode cX3_depthOf 7 = .ok (.iload 4, 2) := by decide +kernel
theorem dX3_depthOf_9 : decode cX3_depthOf 9 = .ok (.ifCond .lt 74, 3) := by decide +kernel
theorem dX3_depthOf_12 : decode cX3_depthOf 12 = .ok (.iconst 1, 1) := by decide +kernel
theorem dX3_depthOf_13 : decode cX3_depthOf 13 = .ok (.istore 5, 2) := by decide +kernel
theorem dX3_depthOf_15 : decode cX3_depthOf 15 = .ok (.aload_n 0, 1) := by decide +kernel
theorem dX3_depthOf_16 : decode cX3_depthOf 16 = .ok (.aload_n 0, 1) := by decide +kernel
theorem dX3_depthOf_17 : decode cX3_depthOf 17 = .ok (.iload_n 1, 1) := by decide +kernel
theorem dX3_depthOf_18 : decode cX3_depthOf 18 = .ok (.iload 4, 2) := by decide +kernel
theorem dX3_depthOf_20 : decode cX3_depthOf 20 = .ok (.invokevirtual 42, 3) := by decide +kernel
theorem dX3_depthOf_23 : decode cX3_depthOf 23 = .ok (.invokevirtual 48, 3) := by decide +kernel
theorem dX3_depthOf_26 : decode cX3_depthOf 26 = .ok (.ifCond .eq 34, 3) := by decide +kernel
theorem dX3_depthOf_29 : decode cX3_depthOf 29 = .ok (.iload_n 3, 1) := by decide +kernel
theorem dX3_depthOf_30 : decode cX3_depthOf 30 = .ok (.iconst 2, 1) := by decide +kernel
theorem dX3_depthOf_31 : decode cX3_depthOf 31 = .ok (.if_icmp .lt 29, 3) := by decide +kernel
theorem dX3_depthOf_34 : decode cX3_depthOf 34 = .ok (.iconst 1, 1) := by decide +kernel
theorem dX3_depthOf_35 : decode cX3_depthOf 35 = .ok (.aload_n 0, 1) := by decide +kernel
theorem dX3_depthOf_36 : decode cX3_depthOf 36 = .ok (.getfield 19, 3) := by decide +kernel
theorem dX3_depthOf_39 : decode cX3_depthOf 39 = .ok (.iload_n 3, 1) := by decide +kernel
theorem dX3_depthOf_40 : decode cX3_depthOf 40 = .ok (.iconst 1, 1) := by decide +kernel
theorem dX3_depthOf_41 : decode cX3_depthOf 41 = .ok (.isub, 1) := by decide +kernel
theorem dX3_depthOf_42 : decode cX3_depthOf 42 = .ok (.iaload, 1) := by decide +kernel
theorem dX3_depthOf_43 : decode cX3_depthOf 43 = .ok (.aload_n 0, 1) := by decide +kernel
theorem dX3_depthOf_44 : decode cX3_depthOf 44 = .ok (.getfield 19, 3) := by decide +kernel
theorem dX3_depthOf_47 : decode cX3_depthOf 47 = .ok (.iload_n 3, 1) := by decide +kernel
theorem dX3_depthOf_48 : decode cX3_depthOf 48 = .ok (.iconst 2, 1) := by decide +kernel
theorem dX3_depthOf_49 : decode cX3_depthOf 49 = .ok (.isub, 1) := by decide +kernel
theorem dX3_depthOf_50 : decode cX3_depthOf 50 = .ok (.iaload, 1) := by decide +kernel
theorem dX3_depthOf_51 : decode cX3_depthOf 51 = .ok (.invokestatic 45, 3) := by decide +kernel
theorem dX3_depthOf_54 : decode cX3_depthOf 54 = .ok (.iadd, 1) := by decide +kernel
theorem dX3_depthOf_55 : decode cX3_depthOf 55 = .ok (.istore 5, 2) := by decide +kernel
theorem dX3_depthOf_57 : decode cX3_depthOf 57 = .ok (.iinc 3 (-2), 3) := by decide +kernel
theorem dX3_depthOf_60 : decode cX3_depthOf 60 = .ok (.iload_n 3, 1) := by decide +kernel
theorem dX3_depthOf_61 : decode cX3_depthOf 61 = .ok (.bipush 60, 2) := by decide +kernel
theorem dX3_depthOf_63 : decode cX3_depthOf 63 = .ok (.if_icmp .ge 14, 3) := by decide +kernel
theorem dX3_depthOf_66 : decode cX3_depthOf 66 = .ok (.aload_n 0, 1) := by decide +kernel
theorem dX3_depthOf_67 : decode cX3_depthOf 67 = .ok (.getfield 19, 3) := by decide +kernel
theorem dX3_depthOf_70 : decode cX3_depthOf 70 = .ok (.iload_n 3, 1) := by decide +kernel
theorem dX3_depthOf_71 : decode cX3_depthOf 71 = .ok (.iload 5, 2) := by decide +kernel
theorem dX3_depthOf_73 : decode cX3_depthOf 73 = .ok (.iastore, 1) := by decide +kernel
theorem dX3_depthOf_74 : decode cX3_depthOf 74 = .ok (.iinc 3 1, 3) := by decide +kernel
theorem dX3_depthOf_77 : decode cX3_depthOf 77 = .ok (.iinc 4 (-1), 3) := by decide +kernel
theorem dX3_depthOf_80 : decode cX3_depthOf 80 = .ok (.goto (-73), 3) := by decide +kernel
theorem dX3_depthOf_83 : decode cX3_depthOf 83 = .ok (.iload_n 3, 1) := by decide +kernel
theorem dX3_depthOf_84 : decode cX3_depthOf 84 = .ok (.ifCond .le 14, 3) := by decide +kernel
theorem dX3_depthOf_87 : decode cX3_depthOf 87 = .ok (.aload_n 0, 1) := by decide +kernel
theorem dX3_depthOf_88 : decode cX3_depthOf 88 = .ok (.getfield 19, 3) := by decide +kernel
theorem dX3_depthOf_91 : decode cX3_depthOf 91 = .ok (.iload_n 3, 1) := by decide +kernel
theorem dX3_depthOf_92 : decode cX3_depthOf 92 = .ok (.iconst 1, 1) := by decide +kernel
theorem dX3_depthOf_93 : decode cX3_depthOf 93 = .ok (.isub, 1) := by decide +kernel
theorem dX3_depthOf_94 : decode cX3_depthOf 94 = .ok (.iaload, 1) := by decide +kernel
theorem dX3_depthOf_95 : decode cX3_depthOf 95 = .ok (.goto 4, 3) := by decide +kernel
theorem dX3_depthOf_98 : decode cX3_depthOf 98 = .ok (.iconst 0, 1) := by decide +kernel
theorem dX3_depthOf_99 : decode cX3_depthOf 99 = .ok (.ireturn, 1) := by decide +kernel
theorem dX3_putFacts_0 : decode cX3_putFacts 0 = .ok (.iload_n 1, 1) := by decide +kernel
theorem dX3_putFacts_1 : decode cX3_putFacts 1 = .ok (.ifCond .lt 9, 3) := by decide +kernel
theorem dX3_putFacts_4 : decode cX3_putFacts 4 = .ok (.iload_n 1, 1) := by decide +kernel
theorem dX3_putFacts_5 : decode cX3_putFacts 5 = .ok (.bipush 40, 2) := by decide +kernel
theorem dX3_putFacts_7 : decode cX3_putFacts 7 = .ok (.if_icmp .lt 4, 3) := by decide +kernel
theorem dX3_putFacts_10 : decode cX3_putFacts 10 = .ok (.return_, 1) := by decide +kernel
theorem dX3_putFacts_11 : decode cX3_putFacts 11 = .ok (.aload_n 0, 1) := by decide +kernel
theorem dX3_putFacts_12 : decode cX3_putFacts 12 = .ok (.getfield 16, 3) := by decide +kernel
theorem dX3_putFacts_15 : decode cX3_putFacts 15 = .ok (.iload_n 1, 1) := by decide +kernel
theorem dX3_putFacts_16 : decode cX3_putFacts 16 = .ok (.aaload, 1) := by decide +kernel
theorem dX3_putFacts_17 : decode cX3_putFacts 17 = .ok (.astore 5, 2) := by decide +kernel
theorem dX3_putFacts_19 : decode cX3_putFacts 19 = .ok (.aload 5, 2) := by decide +kernel
theorem dX3_putFacts_21 : decode cX3_putFacts 21 = .ok (.iconst 0, 1) := by decide +kernel
theorem dX3_putFacts_22 : decode cX3_putFacts 22 = .ok (.iload_n 2, 1) := by decide +kernel
theorem dX3_putFacts_23 : decode cX3_putFacts 23 = .ok (.iastore, 1) := by decide +kernel
theorem dX3_putFacts_24 : decode cX3_putFacts 24 = .ok (.aload 5, 2) := by decide +kernel
theorem dX3_putFacts_26 : decode cX3_putFacts 26 = .ok (.iconst 1, 1) := by decide +kernel
theorem dX3_putFacts_27 : decode cX3_putFacts 27 = .ok (.iload_n 3, 1) := by decide +kernel
theorem dX3_putFacts_28 : decode cX3_putFacts 28 = .ok (.iastore, 1) := by decide +kernel
theorem dX3_putFacts_29 : decode cX3_putFacts 29 = .ok (.aload 5, 2) := by decide +kernel
theorem dX3_putFacts_31 : decode cX3_putFacts 31 = .ok (.iconst 2, 1) := by decide +kernel
theorem dX3_putFacts_32 : decode cX3_putFacts 32 = .ok (.iload 4, 2) := by decide +kernel
theorem dX3_putFacts_34 : decode cX3_putFacts 34 = .ok (.iastore, 1) := by decide +kernel
theorem dX3_putFacts_35 : decode cX3_putFacts 35 = .ok (.aload 5, 2) := by decide +kernel
theorem dX3_putFacts_37 : decode cX3_putFacts 37 = .ok (.iconst 3, 1) := by decide +kernel
theorem dX3_putFacts_38 : decode cX3_putFacts 38 = .ok (.aload_n 0, 1) := by decide +kernel
theorem dX3_putFacts_39 : decode cX3_putFacts 39 = .ok (.iload_n 1, 1) := by decide +kernel
theorem dX3_putFacts_40 : decode cX3_putFacts 40 = .ok (.iload 4, 2) := by decide +kernel
theorem dX3_putFacts_42 : decode cX3_putFacts 42 = .ok (.invokevirtual 36, 3) := by decide +kernel
theorem dX3_putFacts_45 : decode cX3_putFacts 45 = .ok (.iastore, 1) := by decide +kernel
theorem dX3_putFacts_46 : decode cX3_putFacts 46 = .ok (.aload 5, 2) := by decide +kernel
theorem dX3_putFacts_48 : decode cX3_putFacts 48 = .ok (.iconst 4, 1) := by decide +kernel
theorem dX3_putFacts_49 : decode cX3_putFacts 49 = .ok (.aload_n 0, 1) := by decide +kernel
theorem dX3_putFacts_50 : decode cX3_putFacts 50 = .ok (.iload_n 1, 1) := by decide +kernel
theorem dX3_putFacts_51 : decode cX3_putFacts 51 = .ok (.iload 4, 2) := by decide +kernel
theorem dX3_putFacts_53 : decode cX3_putFacts 53 = .ok (.invokevirtual 39, 3) := by decide +kernel
theorem dX3_putFacts_56 : decode cX3_putFacts 56 = .ok (.iastore, 1) := by decide +kernel
theorem dX3_putFacts_57 : decode cX3_putFacts 57 = .ok (.return_, 1) := by decide +kernel
theorem dX3_putFault_0 : decode cX3_putFault 0 = .ok (.aload_n 0, 1) := by decide +kernel
theorem dX3_putFault_1 : decode cX3_putFault 1 = .ok (.iload_n 1, 1) := by decide +kernel
theorem dX3_putFault_2 : decode cX3_putFault 2 = .ok (.iload_n 2, 1) := by decide +kernel
theorem dX3_putFault_3 : decode cX3_putFault 3 = .ok (.iload_n 3, 1) := by decide +kernel
theorem dX3_putFault_4 : decode cX3_putFault 4 = .ok (.iconst 0, 1) := by decide +kernel
theorem dX3_putFault_5 : decode cX3_putFault 5 = .ok (.invokevirtual 26, 3) := by decide +kernel
theorem dX3_putFault_8 : decode cX3_putFault 8 = .ok (.return_, 1) := by decide +kernel
theorem dX3_putRow_0 : decode cX3_putRow 0 = .ok (.iload_n 1, 1) := by decide +kernel
theorem dX3_putRow_1 : decode cX3_putRow 1 = .ok (.ifCond .lt 9, 3) := by decide +kernel
theorem dX3_putRow_4 : decode cX3_putRow 4 = .ok (.iload_n 1, 1) := by decide +kernel
theorem dX3_putRow_5 : decode cX3_putRow 5 = .ok (.bipush 40, 2) := by decide +kernel
theorem dX3_putRow_7 : decode cX3_putRow 7 = .ok (.if_icmp .lt 4, 3) := by decide +kernel
theorem dX3_putRow_10 : decode cX3_putRow 10 = .ok (.return_, 1) := by decide +kernel
theorem dX3_putRow_11 : decode cX3_putRow 11 = .ok (.aload_n 0, 1) := by decide +kernel
theorem dX3_putRow_12 : decode cX3_putRow 12 = .ok (.getfield 11, 3) := by decide +kernel
theorem dX3_putRow_15 : decode cX3_putRow 15 = .ok (.iload_n 1, 1) := by decide +kernel
theorem dX3_putRow_16 : decode cX3_putRow 16 = .ok (.aaload, 1) := by decide +kernel
theorem dX3_putRow_17 : decode cX3_putRow 17 = .ok (.astore 4, 2) := by decide +kernel
theorem dX3_putRow_19 : decode cX3_putRow 19 = .ok (.iconst 0, 1) := by decide +kernel
theorem dX3_putRow_20 : decode cX3_putRow 20 = .ok (.istore 5, 2) := by decide +kernel
theorem dX3_putRow_22 : decode cX3_putRow 22 = .ok (.iload 5, 2) := by decide +kernel
theorem dX3_putRow_24 : decode cX3_putRow 24 = .ok (.iload_n 3, 1) := by decide +kernel
theorem dX3_putRow_25 : decode cX3_putRow 25 = .ok (.if_icmp .ge 33, 3) := by decide +kernel
theorem dX3_putRow_28 : decode cX3_putRow 28 = .ok (.iload 5, 2) := by decide +kernel
theorem dX3_putRow_30 : decode cX3_putRow 30 = .ok (.aload_n 2, 1) := by decide +kernel
theorem dX3_putRow_31 : decode cX3_putRow 31 = .ok (.arraylength, 1) := by decide +kernel
theorem dX3_putRow_32 : decode cX3_putRow 32 = .ok (.if_icmp .ge 26, 3) := by decide +kernel
theorem dX3_putRow_35 : decode cX3_putRow 35 = .ok (.iload 5, 2) := by decide +kernel
theorem dX3_putRow_37 : decode cX3_putRow 37 = .ok (.aload 4, 2) := by decide +kernel
theorem dX3_putRow_39 : decode cX3_putRow 39 = .ok (.arraylength, 1) := by decide +kernel
theorem dX3_putRow_40 : decode cX3_putRow 40 = .ok (.if_icmp .ge 18, 3) := by decide +kernel
theorem dX3_putRow_43 : decode cX3_putRow 43 = .ok (.aload 4, 2) := by decide +kernel
theorem dX3_putRow_45 : decode cX3_putRow 45 = .ok (.iload 5, 2) := by decide +kernel
theorem dX3_putRow_47 : decode cX3_putRow 47 = .ok (.aload_n 2, 1) := by decide +kernel
theorem dX3_putRow_48 : decode cX3_putRow 48 = .ok (.iload 5, 2) := by decide +kernel
theorem dX3_putRow_50 : decode cX3_putRow 50 = .ok (.iaload, 1) := by decide +kernel
theorem dX3_putRow_51 : decode cX3_putRow 51 = .ok (.iastore, 1) := by decide +kernel
theorem dX3_putRow_52 : decode cX3_putRow 52 = .ok (.iinc 5 1, 3) := by decide +kernel
theorem dX3_putRow_55 : decode cX3_putRow 55 = .ok (.goto (-33), 3) := by decide +kernel
theorem dX3_putRow_58 : decode cX3_putRow 58 = .ok (.aload_n 0, 1) := by decide +kernel
theorem dX3_putRow_59 : decode cX3_putRow 59 = .ok (.iload_n 1, 1) := by decide +kernel
theorem dX3_putRow_60 : decode cX3_putRow 60 = .ok (.iconst 0, 1) := by decide +kernel
theorem dX3_putRow_61 : decode cX3_putRow 61 = .ok (.iconst (-1), 1) := by decide +kernel
theorem dX3_putRow_62 : decode cX3_putRow 62 = .ok (.iload_n 3, 1) := by decide +kernel
theorem dX3_putRow_63 : decode cX3_putRow 63 = .ok (.bipush 60, 2) := by decide +kernel
theorem dX3_putRow_65 : decode cX3_putRow 65 = .ok (.invokestatic 30, 3) := by decide +kernel
theorem dX3_putRow_68 : decode cX3_putRow 68 = .ok (.invokevirtual 26, 3) := by decide +kernel
theorem dX3_putRow_71 : decode cX3_putRow 71 = .ok (.return_, 1) := by decide +kernel
theorem dX3_alike_0 : decode cX3_alike 0 = .ok (.aload_n 0, 1) := by decide +kernel
theorem dX3_alike_1 : decode cX3_alike 1 = .ok (.iload_n 1, 1) := by decide +kernel
theorem dX3_alike_2 : decode cX3_alike 2 = .ok (.iconst 2, 1) := by decide +kernel
theorem dX3_alike_3 : decode cX3_alike 3 = .ok (.invokevirtual 52, 3) := by decide +kernel
theorem dX3_alike_6 : decode cX3_alike 6 = .ok (.istore_n 3, 1) := by decide +kernel
theorem dX3_alike_7 : decode cX3_alike 7 = .ok (.iload_n 3, 1) := by decide +kernel
theorem dX3_alike_8 : decode cX3_alike 8 = .ok (.aload_n 0, 1) := by decide +kernel
theorem dX3_alike_9 : decode cX3_alike 9 = .ok (.iload_n 2, 1) := by decide +kernel
theorem dX3_alike_10 : decode cX3_alike 10 = .ok (.iconst 2, 1) := by decide +kernel
theorem dX3_alike_11 : decode cX3_alike 11 = .ok (.invokevirtual 52, 3) := by decide +kernel
theorem dX3_alike_14 : decode cX3_alike 14 = .ok (.if_icmp .eq 5, 3) := by decide +kernel
theorem dX3_alike_17 : decode cX3_alike 17 = .ok (.iconst 0, 1) := by decide +kernel
theorem dX3_alike_18 : decode cX3_alike 18 = .ok (.ireturn, 1) := by decide +kernel
theorem dX3_alike_19 : decode cX3_alike 19 = .ok (.iconst 0, 1) := by decide +kernel
theorem dX3_alike_20 : decode cX3_alike 20 = .ok (.istore 4, 2) := by decide +kernel
theorem dX3_alike_22 : decode cX3_alike 22 = .ok (.iload 4, 2) := by decide +kernel
theorem dX3_alike_24 : decode cX3_alike 24 = .ok (.iload_n 3, 1) := by decide +kernel
theorem dX3_alike_25 : decode cX3_alike 25 = .ok (.if_icmp .ge 28, 3) := by decide +kernel
theorem dX3_alike_28 : decode cX3_alike 28 = .ok (.aload_n 0, 1) := by decide +kernel
theorem dX3_alike_29 : decode cX3_alike 29 = .ok (.iload_n 1, 1) := by decide +kernel
theorem dX3_alike_30 : decode cX3_alike 30 = .ok (.iload 4, 2) := by decide +kernel
theorem dX3_alike_32 : decode cX3_alike 32 = .ok (.invokevirtual 42, 3) := by decide +kernel
theorem dX3_alike_35 : decode cX3_alike 35 = .ok (.aload_n 0, 1) := by decide +kernel
theorem dX3_alike_36 : decode cX3_alike 36 = .ok (.iload_n 2, 1) := by decide +kernel
theorem dX3_alike_37 : decode cX3_alike 37 = .ok (.iload 4, 2) := by decide +kernel
theorem dX3_alike_39 : decode cX3_alike 39 = .ok (.invokevirtual 42, 3) := by decide +kernel
theorem dX3_alike_42 : decode cX3_alike 42 = .ok (.if_icmp .eq 5, 3) := by decide +kernel
theorem dX3_alike_45 : decode cX3_alike 45 = .ok (.iconst 0, 1) := by decide +kernel
theorem dX3_alike_46 : decode cX3_alike 46 = .ok (.ireturn, 1) := by decide +kernel
theorem dX3_alike_47 : decode cX3_alike 47 = .ok (.iinc 4 1, 3) := by decide +kernel
theorem dX3_alike_50 : decode cX3_alike 50 = .ok (.goto (-28), 3) := by decide +kernel
theorem dX3_alike_53 : decode cX3_alike 53 = .ok (.iconst 1, 1) := by decide +kernel
theorem dX3_alike_54 : decode cX3_alike 54 = .ok (.ireturn, 1) := by decide +kernel
section T1
variable {p : Program} {l : Launch} {e : Env} {R : Room} {s : State} {m : MethodId} {args : Array Value} {below : List Frame} {meth : Method} {c : Code} {D : va_G} {g : gT} {N : Nat} {ad ln : Nat → Nat}
def mX1_clear_b0 (A : gM) : Option (gM) :=
  g_let (g_up A 138 3 0) fun A1 =>
  some A1
def mX1_clear (A : gM) : Option (gM) := mX1_clear_b0 A
set_option maxHeartbeats 2000000 in
set_option maxRecDepth 20000 in
theorem wX1_clear_b0 (hN : 183 ≤ N) {A0 A' : gM} (C : gC p R s m args meth c cX1_clear RX1 1 D g (va_A (gw g ad ln A0 N) s.heap.size) 0) (hr : meth.sig.returnType = none)  {A : gM} (h : mX1_clear_b0 A = some A') : gJ p l e R s m args below meth c (gEv below D g N ad ln A0 A' args s) 1 D g (va_A (gw g ad ln A0 N) s.heap.size) N ad ln A [(0, gr 138)] 0 0 0 [] := by
  unfold mX1_clear_b0 at h
  refine g_aload_n C 0 dX1_clear_0 rfl ?_
  refine g_iconst (v := 0) C dX1_clear_1 (by decide) ?_
  obtain ⟨A1, eA1, h⟩ := g_lt h
  refine g_put C 138 3 tyX1 tyX1_ok nmX1 (by omega) rfl rfl gu_1 (by decide) qf_X1_23 rfl (by decide +kernel) (Nat.le_of_ble_eq_true rfl) rfl eA1 dX1_clear_2 ?_
  obtain rfl := Option.some.inj h
  exact g_retv C hr dX1_clear_5

set_option maxHeartbeats 2000000 in
set_option maxRecDepth 20000 in
theorem kX1_clear {l : Launch} {D : va_G} {g : gT} {N : Nat} {ad ln : Nat → Nat} (hN : 183 ≤ N) {A A' : gM} (h : mX1_clear A = some A') : gKv l yX1_clear cX1_clear 1 (none) (0) D g N ad ln A [gr 138] A' := by
  refine g_metv (by decide) (Nat.le_of_ble_eq_true rfl) ?_
  intro p e s m args below meth c C hr
  refine g_sub [0] rfl ?_
  exact wX1_clear_b0 hN C hr h
def mX1_put_b16 (A : gM) : Option (gM) :=
  some A
def mX1_put_b67 (A : gM) (x1 : Int32) (x3 : Int32) (x4 : Nat) : Option (gM) :=
  if g_in (A 138 3) 40 = true then g_let (g_up A 139 (A 138 3).toNatClampNeg x1) fun A2 =>
  if g_in (A2 138 3) 40 = true then g_let (g_up A2 181 (A2 138 3).toNatClampNeg (if 60 < x3 then 60 else x3)) fun A4 =>
  g_let (g_up A4 138 3 ((A4 138 3) + 1)) fun A5 =>
  some A5
  else none
  else none
def mX1_put_b31 (K31 : gM → Int32 → Int32 → Nat → Int32 → Option (gM)) (A : gM) (x1 : Int32) (x3 : Int32) (x4 : Nat) (x5 : Int32) : Option (gM) :=
  if x3 ≤ x5 then
  mX1_put_b67 A x1 x3 x4
  else
  if 60 ≤ x5 then
  mX1_put_b67 A x1 x3 x4
  else
  if 60 ≤ x5 then
  mX1_put_b67 A x1 x3 x4
  else
  if g_in x5 60 = true then
  if g_in x5 60 = true then g_let (g_up A x4 x5.toNatClampNeg (A 182 x5.toNatClampNeg)) fun A6 =>
  g_let (x5 + 1) fun v7 =>
  K31 A6 x1 x3 x4 v7
  else none
  else none
def mX1_put_L31 : Nat → gM → Int32 → Int32 → Nat → Int32 → Option (gM)
  | 0 => fun _ _ _ _ _ => none
  | f + 1 => mX1_put_b31 (mX1_put_L31 f)
def mX1_put_b0 (A : gM) (x1 : Int32) (x3 : Int32) : Option (gM) :=
  if (A 138 3) < 0 then
  mX1_put_b16 A
  else
  if (A 138 3) < 40 then
  if g_in (A 138 3) 40 = true then
  mX1_put_L31 gF A x1 x3 (141 + (A 138 3).toNatClampNeg) 0
  else none
  else
  mX1_put_b16 A
def mX1_put (A : gM) (x1 : Int32) (x3 : Int32) : Option (gM) := mX1_put_b0 A x1 x3
set_option maxHeartbeats 2000000 in
set_option maxRecDepth 20000 in
theorem wX1_put_b16 (hN : 183 ≤ N) {A0 A' : gM} (C : gC p R s m args meth c cX1_put RX1 6 D g (va_A (gw g ad ln A0 N) s.heap.size) 1) (hr : meth.sig.returnType = none)  {A : gM} (h : mX1_put_b16 A = some A') : gJ p l e R s m args below meth c (gEv below D g N ad ln A0 A' args s) 6 D g (va_A (gw g ad ln A0 N) s.heap.size) N ad ln A [] 0 0 16 [] := by
  unfold mX1_put_b16 at h
  obtain rfl := Option.some.inj h
  exact g_retv C hr dX1_put_16

set_option maxHeartbeats 2000000 in
set_option maxRecDepth 20000 in
theorem wX1_put_b67 (hN : 183 ≤ N) {A0 A' : gM} (C : gC p R s m args meth c cX1_put RX1 6 D g (va_A (gw g ad ln A0 N) s.heap.size) 1) (hr : meth.sig.returnType = none)  {A : gM} {x1 : Int32} {x3 : Int32} {x4 : Nat} (hx4 : (x4 < N ∧ g_isI x4 = true ∧ g_ln ln x4 = 60)) (h : mX1_put_b67 A x1 x3 x4 = some A') : gJ p l e R s m args below meth c (gEv below D g N ad ln A0 A' args s) 6 D g (va_A (gw g ad ln A0 N) s.heap.size) N ad ln A [(0, gr 138), (1, gi x1), (3, gi x3), (4, gr x4)] 0 0 67 [] := by
  unfold mX1_put_b67 at h
  refine g_aload_n C 0 dX1_put_67 rfl ?_
  refine g_get (v := gr 139) C 138 0 (by omega) rfl rfl gu_1 (by decide) qf_X1_9 rfl dX1_put_68 ?_
  refine g_aload_n C 0 dX1_put_71 rfl ?_
  refine g_get (v := gi (A 138 3)) C 138 3 (by omega) rfl rfl gu_1 (by decide) qf_X1_23 rfl dX1_put_72 ?_
  refine g_iload_n C 1 dX1_put_75 rfl ?_
  obtain ⟨hg1, h⟩ := g_gd h
  obtain ⟨A2, eA2, h⟩ := g_lt h
  refine g_iast C 139 (by omega) rfl rfl hg1 eA2 dX1_put_76 ?_
  refine g_aload_n C 0 dX1_put_77 rfl ?_
  refine g_get (v := gr 181) C 138 2 (by omega) rfl rfl gu_1 (by decide) qf_X1_20 rfl dX1_put_78 ?_
  refine g_aload_n C 0 dX1_put_81 rfl ?_
  refine g_get (v := gi (A2 138 3)) C 138 3 (by omega) rfl rfl gu_1 (by decide) qf_X1_23 rfl dX1_put_82 ?_
  refine g_iload_n C 2 dX1_put_85 rfl ?_
  refine g_aload C 3 dX1_put_86 rfl ?_
  refine g_alen (v := 60) C x4 hx4.1 hx4.2.1 (by rw [hx4.2.2]; rfl) dX1_put_88 ?_
  refine g_mmin C qm_X1_27 (by decide) (Nat.le_of_ble_eq_true rfl) ⟨Nat.zero_le _, Nat.zero_le _⟩ dX1_put_89 ?_
  obtain ⟨hg3, h⟩ := g_gd h
  obtain ⟨A4, eA4, h⟩ := g_lt h
  refine g_iast C 181 (by omega) rfl rfl hg3 eA4 dX1_put_92 ?_
  refine g_aload_n C 0 dX1_put_93 rfl ?_
  refine g_dup_r C dX1_put_94 ?_
  refine g_get (v := gi (A4 138 3)) C 138 3 (by omega) rfl rfl gu_1 (by decide) qf_X1_23 rfl dX1_put_95 ?_
  refine g_iconst (v := 1) C dX1_put_98 (by decide) ?_
  refine g_iadd C dX1_put_99 ?_
  obtain ⟨A5, eA5, h⟩ := g_lt h
  refine g_put C 138 3 tyX1 tyX1_ok nmX1 (by omega) rfl rfl gu_1 (by decide) qf_X1_23 rfl (by decide +kernel) (Nat.le_of_ble_eq_true rfl) rfl eA5 dX1_put_100 ?_
  obtain rfl := Option.some.inj h
  exact g_retv C hr dX1_put_103

set_option maxHeartbeats 2000000 in
set_option maxRecDepth 20000 in
theorem wX1_put_b31 (hN : 183 ≤ N) {A0 A' : gM} (C : gC p R s m args meth c cX1_put RX1 6 D g (va_A (gw g ad ln A0 N) s.heap.size) 1) (hr : meth.sig.returnType = none) {K31 : gM → Int32 → Int32 → Nat → Int32 → Option (gM)} (hK31 : ∀ {A : gM} {x1 : Int32} {x3 : Int32} {x4 : Nat} {x5 : Int32} (hx4 : (x4 < N ∧ g_isI x4 = true ∧ g_ln ln x4 = 60)), K31 A x1 x3 x4 x5 = some A' → gJ p l e R s m args below meth c (gEv below D g N ad ln A0 A' args s) 6 D g (va_A (gw g ad ln A0 N) s.heap.size) N ad ln A [(0, gr 138), (1, gi x1), (2, gr 182), (3, gi x3), (4, gr x4), (5, gi x5)] 0 0 31 []) {A : gM} {x1 : Int32} {x3 : Int32} {x4 : Nat} {x5 : Int32} (hx4 : (x4 < N ∧ g_isI x4 = true ∧ g_ln ln x4 = 60)) (h : mX1_put_b31 K31 A x1 x3 x4 x5 = some A') : gJ p l e R s m args below meth c (gEv below D g N ad ln A0 A' args s) 6 D g (va_A (gw g ad ln A0 N) s.heap.size) N ad ln A [(0, gr 138), (1, gi x1), (2, gr 182), (3, gi x3), (4, gr x4), (5, gi x5)] 0 0 31 [] := by
  unfold mX1_put_b31 at h
  refine g_iload C 5 dX1_put_31 rfl ?_
  refine g_iload_n C 3 dX1_put_33 rfl ?_
  refine g_icmp_ge C dX1_put_34 (tgt := 67) (by decide) (fun c1 => ?_) (fun c1 => ?_)
  · have h := g_tt c1 h
    refine g_sub [0, 1, 3, 4] rfl ?_
    exact wX1_put_b67 hN C hr hx4 h
  · have h := g_ff c1 h
    refine g_iload C 5 dX1_put_37 rfl ?_
    refine g_aload_n C 2 dX1_put_39 rfl ?_
    refine g_alen (v := 60) C 182 (by omega) rfl rfl dX1_put_40 ?_
    refine g_icmp_ge C dX1_put_41 (tgt := 67) (by decide) (fun c2 => ?_) (fun c2 => ?_)
    · have h := g_tt c2 h
      refine g_sub [0, 1, 3, 4] rfl ?_
      exact wX1_put_b67 hN C hr hx4 h
    · have h := g_ff c2 h
      refine g_iload C 5 dX1_put_44 rfl ?_
      refine g_aload C 4 dX1_put_46 rfl ?_
      refine g_alen (v := 60) C x4 hx4.1 hx4.2.1 (by rw [hx4.2.2]; rfl) dX1_put_48 ?_
      refine g_icmp_ge C dX1_put_49 (tgt := 67) (by decide) (fun c3 => ?_) (fun c3 => ?_)
      · have h := g_tt c3 h
        refine g_sub [0, 1, 3, 4] rfl ?_
        exact wX1_put_b67 hN C hr hx4 h
      · have h := g_ff c3 h
        refine g_aload C 4 dX1_put_52 rfl ?_
        refine g_iload C 5 dX1_put_54 rfl ?_
        refine g_aload_n C 2 dX1_put_56 rfl ?_
        refine g_iload C 5 dX1_put_57 rfl ?_
        obtain ⟨hg4, h⟩ := g_gd h
        refine g_iald C 182 (by omega) rfl rfl hg4 dX1_put_59 ?_
        obtain ⟨hg5, h⟩ := g_gd h
        obtain ⟨A6, eA6, h⟩ := g_lt h
        refine g_iast C x4 hx4.1 hx4.2.1 hx4.2.2 hg5 eA6 dX1_put_60 ?_
        obtain ⟨v7, ev7, h⟩ := g_lt h
        refine g_iinc C 5 dX1_put_61 rfl ev7 (by decide) rfl ?_
        refine g_goto C dX1_put_64 (tgt := 31) (by decide) ?_
        refine g_sub [1, 2, 3, 4, 5, 0] rfl ?_
        exact hK31 hx4 h

set_option maxHeartbeats 2000000 in
set_option maxRecDepth 20000 in
theorem wX1_put_L31 (hN : 183 ≤ N) {A0 A' : gM} (C : gC p R s m args meth c cX1_put RX1 6 D g (va_A (gw g ad ln A0 N) s.heap.size) 1) (hr : meth.sig.returnType = none)  : ∀ (f : Nat) {A : gM} {x1 : Int32} {x3 : Int32} {x4 : Nat} {x5 : Int32} (hx4 : (x4 < N ∧ g_isI x4 = true ∧ g_ln ln x4 = 60)), mX1_put_L31 f A x1 x3 x4 x5 = some A' → gJ p l e R s m args below meth c (gEv below D g N ad ln A0 A' args s) 6 D g (va_A (gw g ad ln A0 N) s.heap.size) N ad ln A [(0, gr 138), (1, gi x1), (2, gr 182), (3, gi x3), (4, gr x4), (5, gi x5)] 0 0 31 []
  | 0, A, x1, x3, x4, x5, hx4, h => by cases h
  | f + 1, A, x1, x3, x4, x5, hx4, h => wX1_put_b31 hN C hr (fun {A} {x1} {x3} {x4} {x5} hx4 h => wX1_put_L31 hN C hr f hx4 h) hx4 h
set_option maxHeartbeats 2000000 in
set_option maxRecDepth 20000 in
theorem wX1_put_b0 (hN : 183 ≤ N) {A0 A' : gM} (C : gC p R s m args meth c cX1_put RX1 6 D g (va_A (gw g ad ln A0 N) s.heap.size) 1) (hr : meth.sig.returnType = none)  {A : gM} {x1 : Int32} {x3 : Int32} (h : mX1_put_b0 A x1 x3 = some A') : gJ p l e R s m args below meth c (gEv below D g N ad ln A0 A' args s) 6 D g (va_A (gw g ad ln A0 N) s.heap.size) N ad ln A [(0, gr 138), (1, gi x1), (2, gr 182), (3, gi x3)] 0 0 0 [] := by
  unfold mX1_put_b0 at h
  refine g_aload_n C 0 dX1_put_0 rfl ?_
  refine g_get (v := gi (A 138 3)) C 138 3 (by omega) rfl rfl gu_1 (by decide) qf_X1_23 rfl dX1_put_1 ?_
  refine g_if_lt C dX1_put_4 (tgt := 16) (by decide) (fun c1 => ?_) (fun c1 => ?_)
  · have h := g_tt c1 h
    refine g_sub [] rfl ?_
    exact wX1_put_b16 hN C hr h
  · have h := g_ff c1 h
    refine g_aload_n C 0 dX1_put_7 rfl ?_
    refine g_get (v := gi (A 138 3)) C 138 3 (by omega) rfl rfl gu_1 (by decide) qf_X1_23 rfl dX1_put_8 ?_
    refine g_bipush (v := 40) C dX1_put_11 (by decide) ?_
    refine g_icmp_lt C dX1_put_13 (tgt := 17) (by decide) (fun c2 => ?_) (fun c2 => ?_)
    · have h := g_tt c2 h
      refine g_aload_n C 0 dX1_put_17 rfl ?_
      refine g_get (v := gr 140) C 138 1 (by omega) rfl rfl gu_1 (by decide) qf_X1_17 rfl dX1_put_18 ?_
      refine g_aload_n C 0 dX1_put_21 rfl ?_
      refine g_get (v := gi (A 138 3)) C 138 3 (by omega) rfl rfl gu_1 (by decide) qf_X1_23 rfl dX1_put_22 ?_
      obtain ⟨hg3, h⟩ := g_gd h
      refine g_aald C 140 141 (by omega) rfl hg3 dX1_put_25 ?_
      refine g_astore C dX1_put_26 (by decide) rfl ?_
      refine g_iconst (v := 0) C dX1_put_28 (by decide) ?_
      refine g_istore C dX1_put_29 (by decide) rfl ?_
      refine g_sub [2, 3, 4, 5, 1, 0] rfl ?_
      exact wX1_put_L31 hN C hr gF (g_row141 (ln := ln) hN hg3) h
    · have h := g_ff c2 h
      refine g_sub [] rfl ?_
      exact wX1_put_b16 hN C hr h

set_option maxHeartbeats 2000000 in
set_option maxRecDepth 20000 in
theorem kX1_put {l : Launch} {D : va_G} {g : gT} {N : Nat} {ad ln : Nat → Nat} (hN : 183 ≤ N) {A A' : gM} {x1 : Int32} {x3 : Int32} (h : mX1_put A x1 x3 = some A') : gKv l yX1_put cX1_put 6 (none) (1) D g N ad ln A [gr 138, gi x1, gr 182, gi x3] A' := by
  refine g_metv (by decide) (Nat.le_of_ble_eq_true rfl) ?_
  intro p e s m args below meth c C hr
  refine g_sub [0, 1, 2, 3] rfl ?_
  exact wX1_put_b0 hN C hr h
def mX1_markAll_b83 (A : gM) : Option (gM) :=
  some A
def mX1_markAll_b77 (K6 : gM → Int32 → Option (gM)) (A : gM) (x2 : Int32) : Option (gM) :=
  g_let (x2 + 1) fun v1 =>
  K6 A v1
def mX1_markAll_b71 (K6 : gM → Int32 → Option (gM)) (K30 : gM → Int32 → Nat → Int32 → Option (gM)) (A : gM) (x2 : Int32) (x3 : Nat) (x4 : Int32) : Option (gM) :=
  g_let (x4 + 1) fun v1 =>
  K30 A x2 x3 v1
def mX1_markAll_b30 (K6 : gM → Int32 → Option (gM)) (K30 : gM → Int32 → Nat → Int32 → Option (gM)) (A : gM) (x2 : Int32) (x3 : Nat) (x4 : Int32) : Option (gM) :=
  if g_in x2 40 = true then
  if (A 181 x2.toNatClampNeg) ≤ x4 then
  mX1_markAll_b77 K6 A x2
  else
  if 60 ≤ x4 then
  mX1_markAll_b77 K6 A x2
  else
  if g_in x4 60 = true then
  (mX4_isNode A (A x3 x4.toNatClampNeg)).bind fun q5 =>
  if q5.2 = 0 then
  mX1_markAll_b71 K6 K30 q5.1 x2 x3 x4
  else
  if g_in x4 60 = true then
  (mX4_nodeOfCode q5.1 (q5.1 x3 x4.toNatClampNeg)).bind fun q8 =>
  (mX4_markWithin q8.1 q8.2).bind fun q9 =>
  mX1_markAll_b71 K6 K30 q9 x2 x3 x4
  else none
  else none
  else none
def mX1_markAll_L30 (K6 : gM → Int32 → Option (gM)) : Nat → gM → Int32 → Nat → Int32 → Option (gM)
  | 0 => fun _ _ _ _ => none
  | f + 1 => mX1_markAll_b30 K6 (mX1_markAll_L30 K6 f)
def mX1_markAll_b6 (K6 : gM → Int32 → Option (gM)) (A : gM) (x2 : Int32) : Option (gM) :=
  if (A 138 3) ≤ x2 then
  mX1_markAll_b83 A
  else
  if 40 ≤ x2 then
  mX1_markAll_b83 A
  else
  if g_in x2 40 = true then
  mX1_markAll_L30 K6 gF A x2 (141 + x2.toNatClampNeg) 0
  else none
def mX1_markAll_L6 : Nat → gM → Int32 → Option (gM)
  | 0 => fun _ _ => none
  | f + 1 => mX1_markAll_b6 (mX1_markAll_L6 f)
def mX1_markAll_b0 (A : gM) : Option (gM) :=
  (mX4_forgetMarks A).bind fun q1 =>
  mX1_markAll_L6 gF q1 0
def mX1_markAll (A : gM) : Option (gM) := mX1_markAll_b0 A
set_option maxHeartbeats 2000000 in
set_option maxRecDepth 20000 in
theorem wX1_markAll_b83 (hN : 183 ≤ N) {A0 A' : gM} (C : gC p R s m args meth c cX1_markAll RX1 5 D g (va_A (gw g ad ln A0 N) s.heap.size) 2) (hr : meth.sig.returnType = none)  {A : gM} (h : mX1_markAll_b83 A = some A') : gJ p l e R s m args below meth c (gEv below D g N ad ln A0 A' args s) 5 D g (va_A (gw g ad ln A0 N) s.heap.size) N ad ln A [] 0 0 83 [] := by
  unfold mX1_markAll_b83 at h
  obtain rfl := Option.some.inj h
  exact g_retv C hr dX1_markAll_83

set_option maxHeartbeats 2000000 in
set_option maxRecDepth 20000 in
theorem wX1_markAll_b77 (hN : 183 ≤ N) {A0 A' : gM} (C : gC p R s m args meth c cX1_markAll RX1 5 D g (va_A (gw g ad ln A0 N) s.heap.size) 2) (hr : meth.sig.returnType = none) {K6 : gM → Int32 → Option (gM)} (hK6 : ∀ {A : gM} {x2 : Int32}, K6 A x2 = some A' → gJ p l e R s m args below meth c (gEv below D g N ad ln A0 A' args s) 5 D g (va_A (gw g ad ln A0 N) s.heap.size) N ad ln A [(0, gr 138), (1, gr 129), (2, gi x2)] 0 0 6 []) {A : gM} {x2 : Int32} (h : mX1_markAll_b77 K6 A x2 = some A') : gJ p l e R s m args below meth c (gEv below D g N ad ln A0 A' args s) 5 D g (va_A (gw g ad ln A0 N) s.heap.size) N ad ln A [(0, gr 138), (1, gr 129), (2, gi x2)] 0 0 77 [] := by
  unfold mX1_markAll_b77 at h
  obtain ⟨v1, ev1, h⟩ := g_lt h
  refine g_iinc C 2 dX1_markAll_77 rfl ev1 (by decide) rfl ?_
  refine g_goto C dX1_markAll_80 (tgt := 6) (by decide) ?_
  refine g_sub [1, 2, 0] rfl ?_
  exact hK6 h

set_option maxHeartbeats 2000000 in
set_option maxRecDepth 20000 in
theorem wX1_markAll_b71 (hN : 183 ≤ N) {A0 A' : gM} (C : gC p R s m args meth c cX1_markAll RX1 5 D g (va_A (gw g ad ln A0 N) s.heap.size) 2) (hr : meth.sig.returnType = none) {K6 : gM → Int32 → Option (gM)} {K30 : gM → Int32 → Nat → Int32 → Option (gM)} (hK6 : ∀ {A : gM} {x2 : Int32}, K6 A x2 = some A' → gJ p l e R s m args below meth c (gEv below D g N ad ln A0 A' args s) 5 D g (va_A (gw g ad ln A0 N) s.heap.size) N ad ln A [(0, gr 138), (1, gr 129), (2, gi x2)] 0 0 6 []) (hK30 : ∀ {A : gM} {x2 : Int32} {x3 : Nat} {x4 : Int32} (hx3 : (x3 < N ∧ g_isI x3 = true ∧ g_ln ln x3 = 60)), K30 A x2 x3 x4 = some A' → gJ p l e R s m args below meth c (gEv below D g N ad ln A0 A' args s) 5 D g (va_A (gw g ad ln A0 N) s.heap.size) N ad ln A [(0, gr 138), (1, gr 129), (2, gi x2), (3, gr x3), (4, gi x4)] 0 0 30 []) {A : gM} {x2 : Int32} {x3 : Nat} {x4 : Int32} (hx3 : (x3 < N ∧ g_isI x3 = true ∧ g_ln ln x3 = 60)) (h : mX1_markAll_b71 K6 K30 A x2 x3 x4 = some A') : gJ p l e R s m args below meth c (gEv below D g N ad ln A0 A' args s) 5 D g (va_A (gw g ad ln A0 N) s.heap.size) N ad ln A [(0, gr 138), (1, gr 129), (2, gi x2), (3, gr x3), (4, gi x4)] 0 0 71 [] := by
  unfold mX1_markAll_b71 at h
  obtain ⟨v1, ev1, h⟩ := g_lt h
  refine g_iinc C 4 dX1_markAll_71 rfl ev1 (by decide) rfl ?_
  refine g_goto C dX1_markAll_74 (tgt := 30) (by decide) ?_
  refine g_sub [1, 2, 3, 4, 0] rfl ?_
  exact hK30 hx3 h

set_option maxHeartbeats 2000000 in
set_option maxRecDepth 20000 in
theorem wX1_markAll_b30 (hN : 183 ≤ N) {A0 A' : gM} (C : gC p R s m args meth c cX1_markAll RX1 5 D g (va_A (gw g ad ln A0 N) s.heap.size) 2) (hr : meth.sig.returnType = none) {K6 : gM → Int32 → Option (gM)} {K30 : gM → Int32 → Nat → Int32 → Option (gM)} (hK6 : ∀ {A : gM} {x2 : Int32}, K6 A x2 = some A' → gJ p l e R s m args below meth c (gEv below D g N ad ln A0 A' args s) 5 D g (va_A (gw g ad ln A0 N) s.heap.size) N ad ln A [(0, gr 138), (1, gr 129), (2, gi x2)] 0 0 6 []) (hK30 : ∀ {A : gM} {x2 : Int32} {x3 : Nat} {x4 : Int32} (hx3 : (x3 < N ∧ g_isI x3 = true ∧ g_ln ln x3 = 60)), K30 A x2 x3 x4 = some A' → gJ p l e R s m args below meth c (gEv below D g N ad ln A0 A' args s) 5 D g (va_A (gw g ad ln A0 N) s.heap.size) N ad ln A [(0, gr 138), (1, gr 129), (2, gi x2), (3, gr x3), (4, gi x4)] 0 0 30 []) {A : gM} {x2 : Int32} {x3 : Nat} {x4 : Int32} (hx3 : (x3 < N ∧ g_isI x3 = true ∧ g_ln ln x3 = 60)) (h : mX1_markAll_b30 K6 K30 A x2 x3 x4 = some A') : gJ p l e R s m args below meth c (gEv below D g N ad ln A0 A' args s) 5 D g (va_A (gw g ad ln A0 N) s.heap.size) N ad ln A [(0, gr 138), (1, gr 129), (2, gi x2), (3, gr x3), (4, gi x4)] 0 0 30 [] := by
  unfold mX1_markAll_b30 at h
  refine g_iload C 4 dX1_markAll_30 rfl ?_
  refine g_aload_n C 0 dX1_markAll_32 rfl ?_
  refine g_get (v := gr 181) C 138 2 (by omega) rfl rfl gu_1 (by decide) qf_X1_20 rfl dX1_markAll_33 ?_
  refine g_iload_n C 2 dX1_markAll_36 rfl ?_
  obtain ⟨hg1, h⟩ := g_gd h
  refine g_iald C 181 (by omega) rfl rfl hg1 dX1_markAll_37 ?_
  refine g_icmp_ge C dX1_markAll_38 (tgt := 77) (by decide) (fun c2 => ?_) (fun c2 => ?_)
  · have h := g_tt c2 h
    refine g_sub [0, 1, 2] rfl ?_
    exact wX1_markAll_b77 hN C hr hK6 h
  · have h := g_ff c2 h
    refine g_iload C 4 dX1_markAll_41 rfl ?_
    refine g_aload_n C 3 dX1_markAll_43 rfl ?_
    refine g_alen (v := 60) C x3 hx3.1 hx3.2.1 (by rw [hx3.2.2]; rfl) dX1_markAll_44 ?_
    refine g_icmp_ge C dX1_markAll_45 (tgt := 77) (by decide) (fun c3 => ?_) (fun c3 => ?_)
    · have h := g_tt c3 h
      refine g_sub [0, 1, 2] rfl ?_
      exact wX1_markAll_b77 hN C hr hK6 h
    · have h := g_ff c3 h
      refine g_aload_n C 1 dX1_markAll_48 rfl ?_
      refine g_aload_n C 3 dX1_markAll_49 rfl ?_
      refine g_iload C 4 dX1_markAll_50 rfl ?_
      obtain ⟨hg4, h⟩ := g_gd h
      refine g_iald C x3 hx3.1 hx3.2.1 hx3.2.2 hg4 dX1_markAll_52 ?_
      obtain ⟨q5, eq5, h⟩ := g_bd h
      refine g_calliV C 129 [gi (A x3 x4.toNatClampNeg)] (kX4_isNode hN eq5) qs_X1_38 (by omega) (by omega) rfl rfl rfl rfl (Nat.le_of_ble_eq_true rfl) ⟨Nat.zero_le _, Nat.zero_le _⟩ dX1_markAll_53 ?_
      refine g_if_eq C dX1_markAll_56 (tgt := 71) (by decide) (fun c6 => ?_) (fun c6 => ?_)
      · have h := g_tt c6 h
        refine g_sub [0, 1, 2, 3, 4] rfl ?_
        exact wX1_markAll_b71 hN C hr hK6 hK30 hx3 h
      · have h := g_ff c6 h
        refine g_aload_n C 1 dX1_markAll_59 rfl ?_
        refine g_aload_n C 1 dX1_markAll_60 rfl ?_
        refine g_aload_n C 3 dX1_markAll_61 rfl ?_
        refine g_iload C 4 dX1_markAll_62 rfl ?_
        obtain ⟨hg7, h⟩ := g_gd h
        refine g_iald C x3 hx3.1 hx3.2.1 hx3.2.2 hg7 dX1_markAll_64 ?_
        obtain ⟨q8, eq8, h⟩ := g_bd h
        refine g_calliV C 129 [gi (q5.1 x3 x4.toNatClampNeg)] (kX4_nodeOfCode hN eq8) qs_X1_42 (by omega) (by omega) rfl rfl rfl rfl (Nat.le_of_ble_eq_true rfl) ⟨Nat.zero_le _, Nat.zero_le _⟩ dX1_markAll_65 ?_
        obtain ⟨q9, eq9, h⟩ := g_bd h
        refine g_callvV C 129 [gi q8.2] (kX4_markWithin hN eq9) qs_X1_46 (by omega) (by omega) rfl rfl rfl rfl (Nat.le_of_ble_eq_true rfl) ⟨Nat.zero_le _, Nat.zero_le _⟩ dX1_markAll_68 ?_
        refine g_sub [0, 1, 2, 3, 4] rfl ?_
        exact wX1_markAll_b71 hN C hr hK6 hK30 hx3 h

set_option maxHeartbeats 2000000 in
set_option maxRecDepth 20000 in
theorem wX1_markAll_L30 (hN : 183 ≤ N) {A0 A' : gM} (C : gC p R s m args meth c cX1_markAll RX1 5 D g (va_A (gw g ad ln A0 N) s.heap.size) 2) (hr : meth.sig.returnType = none) {K6 : gM → Int32 → Option (gM)} (hK6 : ∀ {A : gM} {x2 : Int32}, K6 A x2 = some A' → gJ p l e R s m args below meth c (gEv below D g N ad ln A0 A' args s) 5 D g (va_A (gw g ad ln A0 N) s.heap.size) N ad ln A [(0, gr 138), (1, gr 129), (2, gi x2)] 0 0 6 []) : ∀ (f : Nat) {A : gM} {x2 : Int32} {x3 : Nat} {x4 : Int32} (hx3 : (x3 < N ∧ g_isI x3 = true ∧ g_ln ln x3 = 60)), mX1_markAll_L30 K6 f A x2 x3 x4 = some A' → gJ p l e R s m args below meth c (gEv below D g N ad ln A0 A' args s) 5 D g (va_A (gw g ad ln A0 N) s.heap.size) N ad ln A [(0, gr 138), (1, gr 129), (2, gi x2), (3, gr x3), (4, gi x4)] 0 0 30 []
  | 0, A, x2, x3, x4, hx3, h => by cases h
  | f + 1, A, x2, x3, x4, hx3, h => wX1_markAll_b30 hN C hr hK6 (fun {A} {x2} {x3} {x4} hx3 h => wX1_markAll_L30 hN C hr hK6 f hx3 h) hx3 h
set_option maxHeartbeats 2000000 in
set_option maxRecDepth 20000 in
theorem wX1_markAll_b6 (hN : 183 ≤ N) {A0 A' : gM} (C : gC p R s m args meth c cX1_markAll RX1 5 D g (va_A (gw g ad ln A0 N) s.heap.size) 2) (hr : meth.sig.returnType = none) {K6 : gM → Int32 → Option (gM)} (hK6 : ∀ {A : gM} {x2 : Int32}, K6 A x2 = some A' → gJ p l e R s m args below meth c (gEv below D g N ad ln A0 A' args s) 5 D g (va_A (gw g ad ln A0 N) s.heap.size) N ad ln A [(0, gr 138), (1, gr 129), (2, gi x2)] 0 0 6 []) {A : gM} {x2 : Int32} (h : mX1_markAll_b6 K6 A x2 = some A') : gJ p l e R s m args below meth c (gEv below D g N ad ln A0 A' args s) 5 D g (va_A (gw g ad ln A0 N) s.heap.size) N ad ln A [(0, gr 138), (1, gr 129), (2, gi x2)] 0 0 6 [] := by
  unfold mX1_markAll_b6 at h
  refine g_iload_n C 2 dX1_markAll_6 rfl ?_
  refine g_aload_n C 0 dX1_markAll_7 rfl ?_
  refine g_get (v := gi (A 138 3)) C 138 3 (by omega) rfl rfl gu_1 (by decide) qf_X1_23 rfl dX1_markAll_8 ?_
  refine g_icmp_ge C dX1_markAll_11 (tgt := 83) (by decide) (fun c1 => ?_) (fun c1 => ?_)
  · have h := g_tt c1 h
    refine g_sub [] rfl ?_
    exact wX1_markAll_b83 hN C hr h
  · have h := g_ff c1 h
    refine g_iload_n C 2 dX1_markAll_14 rfl ?_
    refine g_bipush (v := 40) C dX1_markAll_15 (by decide) ?_
    refine g_icmp_ge C dX1_markAll_17 (tgt := 83) (by decide) (fun c2 => ?_) (fun c2 => ?_)
    · have h := g_tt c2 h
      refine g_sub [] rfl ?_
      exact wX1_markAll_b83 hN C hr h
    · have h := g_ff c2 h
      refine g_aload_n C 0 dX1_markAll_20 rfl ?_
      refine g_get (v := gr 140) C 138 1 (by omega) rfl rfl gu_1 (by decide) qf_X1_17 rfl dX1_markAll_21 ?_
      refine g_iload_n C 2 dX1_markAll_24 rfl ?_
      obtain ⟨hg3, h⟩ := g_gd h
      refine g_aald C 140 141 (by omega) rfl hg3 dX1_markAll_25 ?_
      refine g_astore_n C dX1_markAll_26 (by decide) rfl ?_
      refine g_iconst (v := 0) C dX1_markAll_27 (by decide) ?_
      refine g_istore C dX1_markAll_28 (by decide) rfl ?_
      refine g_sub [2, 3, 4, 1, 0] rfl ?_
      exact wX1_markAll_L30 hN C hr hK6 gF (g_row141 (ln := ln) hN hg3) h

set_option maxHeartbeats 2000000 in
set_option maxRecDepth 20000 in
theorem wX1_markAll_L6 (hN : 183 ≤ N) {A0 A' : gM} (C : gC p R s m args meth c cX1_markAll RX1 5 D g (va_A (gw g ad ln A0 N) s.heap.size) 2) (hr : meth.sig.returnType = none)  : ∀ (f : Nat) {A : gM} {x2 : Int32}, mX1_markAll_L6 f A x2 = some A' → gJ p l e R s m args below meth c (gEv below D g N ad ln A0 A' args s) 5 D g (va_A (gw g ad ln A0 N) s.heap.size) N ad ln A [(0, gr 138), (1, gr 129), (2, gi x2)] 0 0 6 []
  | 0, A, x2, h => by cases h
  | f + 1, A, x2, h => wX1_markAll_b6 hN C hr (fun {A} {x2} h => wX1_markAll_L6 hN C hr f h) h
set_option maxHeartbeats 2000000 in
set_option maxRecDepth 20000 in
theorem wX1_markAll_b0 (hN : 183 ≤ N) {A0 A' : gM} (C : gC p R s m args meth c cX1_markAll RX1 5 D g (va_A (gw g ad ln A0 N) s.heap.size) 2) (hr : meth.sig.returnType = none)  {A : gM} (h : mX1_markAll_b0 A = some A') : gJ p l e R s m args below meth c (gEv below D g N ad ln A0 A' args s) 5 D g (va_A (gw g ad ln A0 N) s.heap.size) N ad ln A [(0, gr 138), (1, gr 129)] 0 0 0 [] := by
  unfold mX1_markAll_b0 at h
  refine g_aload_n C 1 dX1_markAll_0 rfl ?_
  obtain ⟨q1, eq1, h⟩ := g_bd h
  refine g_callvV C 129 [] (kX4_forgetMarks hN eq1) qs_X1_33 (by omega) (by omega) rfl rfl rfl rfl (Nat.le_of_ble_eq_true rfl) ⟨Nat.zero_le _, Nat.zero_le _⟩ dX1_markAll_1 ?_
  refine g_iconst (v := 0) C dX1_markAll_4 (by decide) ?_
  refine g_istore_n C dX1_markAll_5 (by decide) rfl ?_
  refine g_sub [1, 2, 0] rfl ?_
  exact wX1_markAll_L6 hN C hr gF h

set_option maxHeartbeats 2000000 in
set_option maxRecDepth 20000 in
theorem kX1_markAll {l : Launch} {D : va_G} {g : gT} {N : Nat} {ad ln : Nat → Nat} (hN : 183 ≤ N) {A A' : gM} (h : mX1_markAll A = some A') : gKv l yX1_markAll cX1_markAll 5 (none) (2) D g N ad ln A [gr 138, gr 129] A' := by
  refine g_metv (by decide) (Nat.le_of_ble_eq_true rfl) ?_
  intro p e s m args below meth c C hr
  refine g_sub [0, 1] rfl ?_
  exact wX1_markAll_b0 hN C hr h
def mX1_dropLast_b17 (A : gM) : Option (gM) :=
  some A
def mX1_dropLast_b0 (A : gM) : Option (gM) :=
  if (A 138 3) ≤ 0 then
  mX1_dropLast_b17 A
  else
  g_let (g_up A 138 3 ((A 138 3) - 1)) fun A2 =>
  mX1_dropLast_b17 A2
def mX1_dropLast (A : gM) : Option (gM) := mX1_dropLast_b0 A
set_option maxHeartbeats 2000000 in
set_option maxRecDepth 20000 in
theorem wX1_dropLast_b17 (hN : 183 ≤ N) {A0 A' : gM} (C : gC p R s m args meth c cX1_dropLast RX1 1 D g (va_A (gw g ad ln A0 N) s.heap.size) 0) (hr : meth.sig.returnType = none)  {A : gM} (h : mX1_dropLast_b17 A = some A') : gJ p l e R s m args below meth c (gEv below D g N ad ln A0 A' args s) 1 D g (va_A (gw g ad ln A0 N) s.heap.size) N ad ln A [] 0 0 17 [] := by
  unfold mX1_dropLast_b17 at h
  obtain rfl := Option.some.inj h
  exact g_retv C hr dX1_dropLast_17

set_option maxHeartbeats 2000000 in
set_option maxRecDepth 20000 in
theorem wX1_dropLast_b0 (hN : 183 ≤ N) {A0 A' : gM} (C : gC p R s m args meth c cX1_dropLast RX1 1 D g (va_A (gw g ad ln A0 N) s.heap.size) 0) (hr : meth.sig.returnType = none)  {A : gM} (h : mX1_dropLast_b0 A = some A') : gJ p l e R s m args below meth c (gEv below D g N ad ln A0 A' args s) 1 D g (va_A (gw g ad ln A0 N) s.heap.size) N ad ln A [(0, gr 138)] 0 0 0 [] := by
  unfold mX1_dropLast_b0 at h
  refine g_aload_n C 0 dX1_dropLast_0 rfl ?_
  refine g_get (v := gi (A 138 3)) C 138 3 (by omega) rfl rfl gu_1 (by decide) qf_X1_23 rfl dX1_dropLast_1 ?_
  refine g_if_le C dX1_dropLast_4 (tgt := 17) (by decide) (fun c1 => ?_) (fun c1 => ?_)
  · have h := g_tt c1 h
    refine g_sub [] rfl ?_
    exact wX1_dropLast_b17 hN C hr h
  · have h := g_ff c1 h
    refine g_aload_n C 0 dX1_dropLast_7 rfl ?_
    refine g_dup_r C dX1_dropLast_8 ?_
    refine g_get (v := gi (A 138 3)) C 138 3 (by omega) rfl rfl gu_1 (by decide) qf_X1_23 rfl dX1_dropLast_9 ?_
    refine g_iconst (v := 1) C dX1_dropLast_12 (by decide) ?_
    refine g_isub C dX1_dropLast_13 ?_
    obtain ⟨A2, eA2, h⟩ := g_lt h
    refine g_put C 138 3 tyX1 tyX1_ok nmX1 (by omega) rfl rfl gu_1 (by decide) qf_X1_23 rfl (by decide +kernel) (Nat.le_of_ble_eq_true rfl) rfl eA2 dX1_dropLast_14 ?_
    refine g_sub [] rfl ?_
    exact wX1_dropLast_b17 hN C hr h

set_option maxHeartbeats 2000000 in
set_option maxRecDepth 20000 in
theorem kX1_dropLast {l : Launch} {D : va_G} {g : gT} {N : Nat} {ad ln : Nat → Nat} (hN : 183 ≤ N) {A A' : gM} (h : mX1_dropLast A = some A') : gKv l yX1_dropLast cX1_dropLast 1 (none) (0) D g N ad ln A [gr 138] A' := by
  refine g_metv (by decide) (Nat.le_of_ble_eq_true rfl) ?_
  intro p e s m args below meth c C hr
  refine g_sub [0] rfl ?_
  exact wX1_dropLast_b0 hN C hr h
def mX1_latest_b12 (K12 : gM → Int32 → Int32 → Option (gM × Int32)) (A : gM) (x1 : Int32) (x2 : Int32) : Option (gM × Int32) :=
  if x2 < 0 then
  some (A, (-1))
  else
  if g_in x2 40 = true then
  if (A 139 x2.toNatClampNeg) = x1 then
  some (A, x2)
  else
  g_let (x2 + (-1)) fun v4 =>
  K12 A x1 v4
  else none
def mX1_latest_L12 : Nat → gM → Int32 → Int32 → Option (gM × Int32)
  | 0 => fun _ _ _ => none
  | f + 1 => mX1_latest_b12 (mX1_latest_L12 f)
def mX1_latest_b0 (A : gM) (x1 : Int32) : Option (gM × Int32) :=
  g_let ((if 40 < (A 138 3) then 40 else (A 138 3)) - 1) fun v1 =>
  mX1_latest_L12 gF A x1 v1
def mX1_latest (A : gM) (x1 : Int32) : Option (gM × Int32) := mX1_latest_b0 A x1
set_option maxHeartbeats 2000000 in
set_option maxRecDepth 20000 in
theorem wX1_latest_b12 (hN : 183 ≤ N) {A0 A' : gM} {r : Int32} (C : gC p R s m args meth c cX1_latest RX1 3 D g (va_A (gw g ad ln A0 N) s.heap.size) 1) (hr : meth.sig.returnType = some .int) {K12 : gM → Int32 → Int32 → Option (gM × Int32)} (hK12 : ∀ {A : gM} {x1 : Int32} {x2 : Int32}, K12 A x1 x2 = some (A', r) → gJ p l e R s m args below meth c (gEi below D g N ad ln A0 A' r args s) 3 D g (va_A (gw g ad ln A0 N) s.heap.size) N ad ln A [(0, gr 138), (1, gi x1), (2, gi x2)] 0 0 12 []) {A : gM} {x1 : Int32} {x2 : Int32} (h : mX1_latest_b12 K12 A x1 x2 = some (A', r)) : gJ p l e R s m args below meth c (gEi below D g N ad ln A0 A' r args s) 3 D g (va_A (gw g ad ln A0 N) s.heap.size) N ad ln A [(0, gr 138), (1, gi x1), (2, gi x2)] 0 0 12 [] := by
  unfold mX1_latest_b12 at h
  refine g_iload_n C 2 dX1_latest_12 rfl ?_
  refine g_if_lt C dX1_latest_13 (tgt := 34) (by decide) (fun c1 => ?_) (fun c1 => ?_)
  · have h := g_tt c1 h
    refine g_iconst (v := (-1)) C dX1_latest_34 (by decide) ?_
    obtain ⟨rfl, rfl⟩ := Prod.mk.inj (Option.some.inj h)
    exact g_reti C hr dX1_latest_35
  · have h := g_ff c1 h
    refine g_aload_n C 0 dX1_latest_16 rfl ?_
    refine g_get (v := gr 139) C 138 0 (by omega) rfl rfl gu_1 (by decide) qf_X1_9 rfl dX1_latest_17 ?_
    refine g_iload_n C 2 dX1_latest_20 rfl ?_
    obtain ⟨hg2, h⟩ := g_gd h
    refine g_iald C 139 (by omega) rfl rfl hg2 dX1_latest_21 ?_
    refine g_iload_n C 1 dX1_latest_22 rfl ?_
    refine g_icmp_ne C dX1_latest_23 (tgt := 28) (by decide) (fun c3 => ?_) (fun c3 => ?_)
    · have h := g_ff c3 h
      obtain ⟨v4, ev4, h⟩ := g_lt h
      refine g_iinc C 2 dX1_latest_28 rfl ev4 (by decide) rfl ?_
      refine g_goto C dX1_latest_31 (tgt := 12) (by decide) ?_
      refine g_sub [1, 2, 0] rfl ?_
      exact hK12 h
    · have h := g_tt c3 h
      refine g_iload_n C 2 dX1_latest_26 rfl ?_
      obtain ⟨rfl, rfl⟩ := Prod.mk.inj (Option.some.inj h)
      exact g_reti C hr dX1_latest_27

set_option maxHeartbeats 2000000 in
set_option maxRecDepth 20000 in
theorem wX1_latest_L12 (hN : 183 ≤ N) {A0 A' : gM} {r : Int32} (C : gC p R s m args meth c cX1_latest RX1 3 D g (va_A (gw g ad ln A0 N) s.heap.size) 1) (hr : meth.sig.returnType = some .int)  : ∀ (f : Nat) {A : gM} {x1 : Int32} {x2 : Int32}, mX1_latest_L12 f A x1 x2 = some (A', r) → gJ p l e R s m args below meth c (gEi below D g N ad ln A0 A' r args s) 3 D g (va_A (gw g ad ln A0 N) s.heap.size) N ad ln A [(0, gr 138), (1, gi x1), (2, gi x2)] 0 0 12 []
  | 0, A, x1, x2, h => by cases h
  | f + 1, A, x1, x2, h => wX1_latest_b12 hN C hr (fun {A} {x1} {x2} h => wX1_latest_L12 hN C hr f h) h
set_option maxHeartbeats 2000000 in
set_option maxRecDepth 20000 in
theorem wX1_latest_b0 (hN : 183 ≤ N) {A0 A' : gM} {r : Int32} (C : gC p R s m args meth c cX1_latest RX1 3 D g (va_A (gw g ad ln A0 N) s.heap.size) 1) (hr : meth.sig.returnType = some .int)  {A : gM} {x1 : Int32} (h : mX1_latest_b0 A x1 = some (A', r)) : gJ p l e R s m args below meth c (gEi below D g N ad ln A0 A' r args s) 3 D g (va_A (gw g ad ln A0 N) s.heap.size) N ad ln A [(0, gr 138), (1, gi x1)] 0 0 0 [] := by
  unfold mX1_latest_b0 at h
  refine g_aload_n C 0 dX1_latest_0 rfl ?_
  refine g_get (v := gi (A 138 3)) C 138 3 (by omega) rfl rfl gu_1 (by decide) qf_X1_23 rfl dX1_latest_1 ?_
  refine g_bipush (v := 40) C dX1_latest_4 (by decide) ?_
  refine g_mmin C qm_X1_27 (by decide) (Nat.le_of_ble_eq_true rfl) ⟨Nat.zero_le _, Nat.zero_le _⟩ dX1_latest_6 ?_
  refine g_iconst (v := 1) C dX1_latest_9 (by decide) ?_
  refine g_isub C dX1_latest_10 ?_
  obtain ⟨v1, ev1, h⟩ := g_lt h
  refine g_topi ev1 ?_
  refine g_istore_n C dX1_latest_11 (by decide) rfl ?_
  refine g_sub [1, 2, 0] rfl ?_
  exact wX1_latest_L12 hN C hr gF h

set_option maxHeartbeats 2000000 in
set_option maxRecDepth 20000 in
theorem kX1_latest {l : Launch} {D : va_G} {g : gT} {N : Nat} {ad ln : Nat → Nat} (hN : 183 ≤ N) {A A' : gM} {x1 : Int32} {r : Int32} (h : mX1_latest A x1 = some (A', r)) : gKi l yX1_latest cX1_latest 3 (some .int) (1) D g N ad ln A [gr 138, gi x1] A' r := by
  refine g_meti (by decide) (Nat.le_of_ble_eq_true rfl) ?_
  intro p e s m args below meth c C hr
  refine g_sub [0, 1] rfl ?_
  exact wX1_latest_b0 hN C hr h
def mX1_rowAt_b25 (A : gM) (s0 : Nat) : Option (gM × Nat) :=
  some (A, s0)
def mX1_rowAt_b19 (A : gM) : Option (gM × Nat) :=
  if g_in 0 40 = true then
  mX1_rowAt_b25 A (141 + (0 : Int32).toNatClampNeg)
  else none
def mX1_rowAt_b0 (A : gM) (x1 : Int32) : Option (gM × Nat) :=
  if x1 < 0 then
  mX1_rowAt_b19 A
  else
  if 40 ≤ x1 then
  mX1_rowAt_b19 A
  else
  if g_in x1 40 = true then
  mX1_rowAt_b25 A (141 + x1.toNatClampNeg)
  else none
def mX1_rowAt (A : gM) (x1 : Int32) : Option (gM × Nat) := mX1_rowAt_b0 A x1
set_option maxHeartbeats 2000000 in
set_option maxRecDepth 20000 in
theorem wX1_rowAt_b25 (hN : 183 ≤ N) {A0 A' : gM} {r : Nat} (C : gC p R s m args meth c cX1_rowAt RX1 2 D g (va_A (gw g ad ln A0 N) s.heap.size) 0) (hr : meth.sig.returnType = some (.array .int))  {A : gM} {s0 : Nat} (hs0 : (s0 < N ∧ g_isI s0 = true ∧ g_ln ln s0 = 60)) (h : mX1_rowAt_b25 A s0 = some (A', r)) : gJ p l e R s m args below meth c (gEr below D g N ad ln A0 A' r args s) 2 D g (va_A (gw g ad ln A0 N) s.heap.size) N ad ln A [] 0 0 25 [gr s0] := by
  unfold mX1_rowAt_b25 at h
  obtain ⟨rfl, rfl⟩ := Prod.mk.inj (Option.some.inj h)
  exact g_retr C hr (Or.inr ⟨_, rfl⟩) dX1_rowAt_25

set_option maxHeartbeats 2000000 in
set_option maxRecDepth 20000 in
theorem wX1_rowAt_b19 (hN : 183 ≤ N) {A0 A' : gM} {r : Nat} (C : gC p R s m args meth c cX1_rowAt RX1 2 D g (va_A (gw g ad ln A0 N) s.heap.size) 0) (hr : meth.sig.returnType = some (.array .int))  {A : gM} (h : mX1_rowAt_b19 A = some (A', r)) : gJ p l e R s m args below meth c (gEr below D g N ad ln A0 A' r args s) 2 D g (va_A (gw g ad ln A0 N) s.heap.size) N ad ln A [(0, gr 138)] 0 0 19 [] := by
  unfold mX1_rowAt_b19 at h
  refine g_aload_n C 0 dX1_rowAt_19 rfl ?_
  refine g_get (v := gr 140) C 138 1 (by omega) rfl rfl gu_1 (by decide) qf_X1_17 rfl dX1_rowAt_20 ?_
  refine g_iconst (v := 0) C dX1_rowAt_23 (by decide) ?_
  obtain ⟨hg1, h⟩ := g_gd h
  refine g_aald C 140 141 (by omega) rfl hg1 dX1_rowAt_24 ?_
  refine g_sub [] rfl ?_
  exact wX1_rowAt_b25 hN C hr (g_row141 (ln := ln) hN hg1) h

set_option maxHeartbeats 2000000 in
set_option maxRecDepth 20000 in
theorem wX1_rowAt_b0 (hN : 183 ≤ N) {A0 A' : gM} {r : Nat} (C : gC p R s m args meth c cX1_rowAt RX1 2 D g (va_A (gw g ad ln A0 N) s.heap.size) 0) (hr : meth.sig.returnType = some (.array .int))  {A : gM} {x1 : Int32} (h : mX1_rowAt_b0 A x1 = some (A', r)) : gJ p l e R s m args below meth c (gEr below D g N ad ln A0 A' r args s) 2 D g (va_A (gw g ad ln A0 N) s.heap.size) N ad ln A [(0, gr 138), (1, gi x1)] 0 0 0 [] := by
  unfold mX1_rowAt_b0 at h
  refine g_iload_n C 1 dX1_rowAt_0 rfl ?_
  refine g_if_lt C dX1_rowAt_1 (tgt := 19) (by decide) (fun c1 => ?_) (fun c1 => ?_)
  · have h := g_tt c1 h
    refine g_sub [0] rfl ?_
    exact wX1_rowAt_b19 hN C hr h
  · have h := g_ff c1 h
    refine g_iload_n C 1 dX1_rowAt_4 rfl ?_
    refine g_bipush (v := 40) C dX1_rowAt_5 (by decide) ?_
    refine g_icmp_ge C dX1_rowAt_7 (tgt := 19) (by decide) (fun c2 => ?_) (fun c2 => ?_)
    · have h := g_tt c2 h
      refine g_sub [0] rfl ?_
      exact wX1_rowAt_b19 hN C hr h
    · have h := g_ff c2 h
      refine g_aload_n C 0 dX1_rowAt_10 rfl ?_
      refine g_get (v := gr 140) C 138 1 (by omega) rfl rfl gu_1 (by decide) qf_X1_17 rfl dX1_rowAt_11 ?_
      refine g_iload_n C 1 dX1_rowAt_14 rfl ?_
      obtain ⟨hg3, h⟩ := g_gd h
      refine g_aald C 140 141 (by omega) rfl hg3 dX1_rowAt_15 ?_
      refine g_goto C dX1_rowAt_16 (tgt := 25) (by decide) ?_
      refine g_sub [] rfl ?_
      exact wX1_rowAt_b25 hN C hr (g_row141 (ln := ln) hN hg3) h

set_option maxHeartbeats 2000000 in
set_option maxRecDepth 20000 in
theorem kX1_rowAt {l : Launch} {D : va_G} {g : gT} {N : Nat} {ad ln : Nat → Nat} (hN : 183 ≤ N) {A A' : gM} {x1 : Int32} {r : Nat} (h : mX1_rowAt A x1 = some (A', r)) : gKr l yX1_rowAt cX1_rowAt 2 (some (.array .int)) (0) D g N ad ln A [gr 138, gi x1] A' r := by
  refine g_metr (by decide) (Nat.le_of_ble_eq_true rfl) ?_
  intro p e s m args below meth c C hr
  refine g_sub [0, 1] rfl ?_
  exact wX1_rowAt_b0 hN C hr h
set_option maxHeartbeats 2000000 in
set_option maxRecDepth 20000 in
theorem mX1_rowAt_ok {N : Nat} {ln : Nat → Nat} {A : gM} {x : Int32} {q : gM × Nat} (hN : 183 ≤ N) (h : mX1_rowAt A x = some q) : q.2 < N ∧ g_isI q.2 = true ∧ g_ln ln q.2 = 60 := by
  unfold mX1_rowAt mX1_rowAt_b0 mX1_rowAt_b19 mX1_rowAt_b25 at h
  by_cases c1 : x < 0
  · obtain ⟨h0, h⟩ := g_gd (g_tt c1 h)
    rw [← Option.some.inj h]
    exact g_row141 hN h0
  · have h := g_ff c1 h
    by_cases c2 : 40 ≤ x
    · obtain ⟨h0, h⟩ := g_gd (g_tt c2 h)
      rw [← Option.some.inj h]
      exact g_row141 hN h0
    · obtain ⟨h0, h⟩ := g_gd (g_ff c2 h)
      rw [← Option.some.inj h]
      exact g_row141 hN h0
def mX1_lengthAt_b20 (A : gM) (s0 : Int32) : Option (gM × Int32) :=
  some (A, s0)
def mX1_lengthAt_b19 (A : gM) : Option (gM × Int32) :=
  mX1_lengthAt_b20 A 0
def mX1_lengthAt_b0 (A : gM) (x1 : Int32) : Option (gM × Int32) :=
  if x1 < 0 then
  mX1_lengthAt_b19 A
  else
  if 40 ≤ x1 then
  mX1_lengthAt_b19 A
  else
  if g_in x1 40 = true then
  mX1_lengthAt_b20 A (A 181 x1.toNatClampNeg)
  else none
def mX1_lengthAt (A : gM) (x1 : Int32) : Option (gM × Int32) := mX1_lengthAt_b0 A x1
set_option maxHeartbeats 2000000 in
set_option maxRecDepth 20000 in
theorem wX1_lengthAt_b20 (hN : 183 ≤ N) {A0 A' : gM} {r : Int32} (C : gC p R s m args meth c cX1_lengthAt RX1 2 D g (va_A (gw g ad ln A0 N) s.heap.size) 0) (hr : meth.sig.returnType = some .int)  {A : gM} {s0 : Int32} (h : mX1_lengthAt_b20 A s0 = some (A', r)) : gJ p l e R s m args below meth c (gEi below D g N ad ln A0 A' r args s) 2 D g (va_A (gw g ad ln A0 N) s.heap.size) N ad ln A [] 0 0 20 [gi s0] := by
  unfold mX1_lengthAt_b20 at h
  obtain ⟨rfl, rfl⟩ := Prod.mk.inj (Option.some.inj h)
  exact g_reti C hr dX1_lengthAt_20

set_option maxHeartbeats 2000000 in
set_option maxRecDepth 20000 in
theorem wX1_lengthAt_b19 (hN : 183 ≤ N) {A0 A' : gM} {r : Int32} (C : gC p R s m args meth c cX1_lengthAt RX1 2 D g (va_A (gw g ad ln A0 N) s.heap.size) 0) (hr : meth.sig.returnType = some .int)  {A : gM} (h : mX1_lengthAt_b19 A = some (A', r)) : gJ p l e R s m args below meth c (gEi below D g N ad ln A0 A' r args s) 2 D g (va_A (gw g ad ln A0 N) s.heap.size) N ad ln A [] 0 0 19 [] := by
  unfold mX1_lengthAt_b19 at h
  refine g_iconst (v := 0) C dX1_lengthAt_19 (by decide) ?_
  refine g_sub [] rfl ?_
  exact wX1_lengthAt_b20 hN C hr h

set_option maxHeartbeats 2000000 in
set_option maxRecDepth 20000 in
theorem wX1_lengthAt_b0 (hN : 183 ≤ N) {A0 A' : gM} {r : Int32} (C : gC p R s m args meth c cX1_lengthAt RX1 2 D g (va_A (gw g ad ln A0 N) s.heap.size) 0) (hr : meth.sig.returnType = some .int)  {A : gM} {x1 : Int32} (h : mX1_lengthAt_b0 A x1 = some (A', r)) : gJ p l e R s m args below meth c (gEi below D g N ad ln A0 A' r args s) 2 D g (va_A (gw g ad ln A0 N) s.heap.size) N ad ln A [(0, gr 138), (1, gi x1)] 0 0 0 [] := by
  unfold mX1_lengthAt_b0 at h
  refine g_iload_n C 1 dX1_lengthAt_0 rfl ?_
  refine g_if_lt C dX1_lengthAt_1 (tgt := 19) (by decide) (fun c1 => ?_) (fun c1 => ?_)
  · have h := g_tt c1 h
    refine g_sub [] rfl ?_
    exact wX1_lengthAt_b19 hN C hr h
  · have h := g_ff c1 h
    refine g_iload_n C 1 dX1_lengthAt_4 rfl ?_
    refine g_bipush (v := 40) C dX1_lengthAt_5 (by decide) ?_
    refine g_icmp_ge C dX1_lengthAt_7 (tgt := 19) (by decide) (fun c2 => ?_) (fun c2 => ?_)
    · have h := g_tt c2 h
      refine g_sub [] rfl ?_
      exact wX1_lengthAt_b19 hN C hr h
    · have h := g_ff c2 h
      refine g_aload_n C 0 dX1_lengthAt_10 rfl ?_
      refine g_get (v := gr 181) C 138 2 (by omega) rfl rfl gu_1 (by decide) qf_X1_20 rfl dX1_lengthAt_11 ?_
      refine g_iload_n C 1 dX1_lengthAt_14 rfl ?_
      obtain ⟨hg3, h⟩ := g_gd h
      refine g_iald C 181 (by omega) rfl rfl hg3 dX1_lengthAt_15 ?_
      refine g_goto C dX1_lengthAt_16 (tgt := 20) (by decide) ?_
      refine g_sub [] rfl ?_
      exact wX1_lengthAt_b20 hN C hr h

set_option maxHeartbeats 2000000 in
set_option maxRecDepth 20000 in
theorem kX1_lengthAt {l : Launch} {D : va_G} {g : gT} {N : Nat} {ad ln : Nat → Nat} (hN : 183 ≤ N) {A A' : gM} {x1 : Int32} {r : Int32} (h : mX1_lengthAt A x1 = some (A', r)) : gKi l yX1_lengthAt cX1_lengthAt 2 (some .int) (0) D g N ad ln A [gr 138, gi x1] A' r := by
  refine g_meti (by decide) (Nat.le_of_ble_eq_true rfl) ?_
  intro p e s m args below meth c C hr
  refine g_sub [0, 1] rfl ?_
  exact wX1_lengthAt_b0 hN C hr h
def mX3_fact_b41 (A : gM) (s0 : Int32) : Option (gM × Int32) :=
  some (A, s0)
def mX3_fact_b40 (A : gM) : Option (gM × Int32) :=
  mX3_fact_b41 A 0
def mX3_fact_b15 (A : gM) (x1 : Int32) (x2 : Int32) (s0 : Int32) : Option (gM × Int32) :=
  if s0 = 0 then
  mX3_fact_b40 A
  else
  if x2 < 0 then
  mX3_fact_b40 A
  else
  if 5 ≤ x2 then
  mX3_fact_b40 A
  else
  if g_in x1 40 = true then
  if g_in x2 5 = true then
  mX3_fact_b41 A (A (86 + x1.toNatClampNeg) x2.toNatClampNeg)
  else none
  else none
def mX3_fact_b14 (A : gM) (x1 : Int32) (x2 : Int32) : Option (gM × Int32) :=
  mX3_fact_b15 A x1 x2 0
def mX3_fact_b0 (A : gM) (x1 : Int32) (x2 : Int32) : Option (gM × Int32) :=
  if x1 < 0 then
  mX3_fact_b14 A x1 x2
  else
  if 40 ≤ x1 then
  mX3_fact_b14 A x1 x2
  else
  mX3_fact_b15 A x1 x2 1
def mX3_fact (A : gM) (x1 : Int32) (x2 : Int32) : Option (gM × Int32) := mX3_fact_b0 A x1 x2
set_option maxHeartbeats 2000000 in
set_option maxRecDepth 20000 in
theorem wX3_fact_b41 (hN : 183 ≤ N) {A0 A' : gM} {r : Int32} (C : gC p R s m args meth c cX3_fact RX3 4 D g (va_A (gw g ad ln A0 N) s.heap.size) 0) (hr : meth.sig.returnType = some .int)  {A : gM} {s0 : Int32} (h : mX3_fact_b41 A s0 = some (A', r)) : gJ p l e R s m args below meth c (gEi below D g N ad ln A0 A' r args s) 4 D g (va_A (gw g ad ln A0 N) s.heap.size) N ad ln A [] 0 0 41 [gi s0] := by
  unfold mX3_fact_b41 at h
  obtain ⟨rfl, rfl⟩ := Prod.mk.inj (Option.some.inj h)
  exact g_reti C hr dX3_fact_41

set_option maxHeartbeats 2000000 in
set_option maxRecDepth 20000 in
theorem wX3_fact_b40 (hN : 183 ≤ N) {A0 A' : gM} {r : Int32} (C : gC p R s m args meth c cX3_fact RX3 4 D g (va_A (gw g ad ln A0 N) s.heap.size) 0) (hr : meth.sig.returnType = some .int)  {A : gM} (h : mX3_fact_b40 A = some (A', r)) : gJ p l e R s m args below meth c (gEi below D g N ad ln A0 A' r args s) 4 D g (va_A (gw g ad ln A0 N) s.heap.size) N ad ln A [] 0 0 40 [] := by
  unfold mX3_fact_b40 at h
  refine g_iconst (v := 0) C dX3_fact_40 (by decide) ?_
  refine g_sub [] rfl ?_
  exact wX3_fact_b41 hN C hr h

set_option maxHeartbeats 2000000 in
set_option maxRecDepth 20000 in
theorem wX3_fact_b15 (hN : 183 ≤ N) {A0 A' : gM} {r : Int32} (C : gC p R s m args meth c cX3_fact RX3 4 D g (va_A (gw g ad ln A0 N) s.heap.size) 0) (hr : meth.sig.returnType = some .int)  {A : gM} {x1 : Int32} {x2 : Int32} {s0 : Int32} (h : mX3_fact_b15 A x1 x2 s0 = some (A', r)) : gJ p l e R s m args below meth c (gEi below D g N ad ln A0 A' r args s) 4 D g (va_A (gw g ad ln A0 N) s.heap.size) N ad ln A [(0, gr 43), (1, gi x1), (2, gi x2)] 0 0 15 [gi s0] := by
  unfold mX3_fact_b15 at h
  refine g_istore_n C dX3_fact_15 (by decide) rfl ?_
  refine g_iload_n C 0 dX3_fact_16 rfl ?_
  refine g_if_eq C dX3_fact_17 (tgt := 40) (by decide) (fun c1 => ?_) (fun c1 => ?_)
  · have h := g_tt c1 h
    refine g_sub [] rfl ?_
    exact wX3_fact_b40 hN C hr h
  · have h := g_ff c1 h
    refine g_iload_n C 3 dX3_fact_20 rfl ?_
    refine g_if_lt C dX3_fact_21 (tgt := 40) (by decide) (fun c2 => ?_) (fun c2 => ?_)
    · have h := g_tt c2 h
      refine g_sub [] rfl ?_
      exact wX3_fact_b40 hN C hr h
    · have h := g_ff c2 h
      refine g_iload_n C 3 dX3_fact_24 rfl ?_
      refine g_iconst (v := 5) C dX3_fact_25 (by decide) ?_
      refine g_icmp_ge C dX3_fact_26 (tgt := 40) (by decide) (fun c3 => ?_) (fun c3 => ?_)
      · have h := g_tt c3 h
        refine g_sub [] rfl ?_
        exact wX3_fact_b40 hN C hr h
      · have h := g_ff c3 h
        refine g_aload_n C 1 dX3_fact_29 rfl ?_
        refine g_get (v := gr 85) C 43 1 (by omega) rfl rfl gu_3 (by decide) qf_X3_16 rfl dX3_fact_30 ?_
        refine g_iload_n C 2 dX3_fact_33 rfl ?_
        obtain ⟨hg4, h⟩ := g_gd h
        refine g_aald C 85 86 (by omega) rfl hg4 dX3_fact_34 ?_
        refine g_iload_n C 3 dX3_fact_35 rfl ?_
        obtain ⟨hg5, h⟩ := g_gd h
        refine g_iald C (86 + x1.toNatClampNeg) (g_row86 (ln := ln) hN hg4).1 (g_row86 (ln := ln) hN hg4).2.1 (g_row86 (ln := ln) hN hg4).2.2 hg5 dX3_fact_36 ?_
        refine g_goto C dX3_fact_37 (tgt := 41) (by decide) ?_
        refine g_sub [] rfl ?_
        exact wX3_fact_b41 hN C hr h

set_option maxHeartbeats 2000000 in
set_option maxRecDepth 20000 in
theorem wX3_fact_b14 (hN : 183 ≤ N) {A0 A' : gM} {r : Int32} (C : gC p R s m args meth c cX3_fact RX3 4 D g (va_A (gw g ad ln A0 N) s.heap.size) 0) (hr : meth.sig.returnType = some .int)  {A : gM} {x1 : Int32} {x2 : Int32} (h : mX3_fact_b14 A x1 x2 = some (A', r)) : gJ p l e R s m args below meth c (gEi below D g N ad ln A0 A' r args s) 4 D g (va_A (gw g ad ln A0 N) s.heap.size) N ad ln A [(0, gr 43), (1, gi x1), (2, gi x2)] 0 0 14 [] := by
  unfold mX3_fact_b14 at h
  refine g_iconst (v := 0) C dX3_fact_14 (by decide) ?_
  refine g_sub [0, 1, 2] rfl ?_
  exact wX3_fact_b15 hN C hr h

set_option maxHeartbeats 2000000 in
set_option maxRecDepth 20000 in
theorem wX3_fact_b0 (hN : 183 ≤ N) {A0 A' : gM} {r : Int32} (C : gC p R s m args meth c cX3_fact RX3 4 D g (va_A (gw g ad ln A0 N) s.heap.size) 0) (hr : meth.sig.returnType = some .int)  {A : gM} {x1 : Int32} {x2 : Int32} (h : mX3_fact_b0 A x1 x2 = some (A', r)) : gJ p l e R s m args below meth c (gEi below D g N ad ln A0 A' r args s) 4 D g (va_A (gw g ad ln A0 N) s.heap.size) N ad ln A [(0, gr 43), (1, gi x1), (2, gi x2)] 0 0 0 [] := by
  unfold mX3_fact_b0 at h
  refine g_iload_n C 1 dX3_fact_0 rfl ?_
  refine g_if_lt C dX3_fact_1 (tgt := 14) (by decide) (fun c1 => ?_) (fun c1 => ?_)
  · have h := g_tt c1 h
    refine g_sub [0, 1, 2] rfl ?_
    exact wX3_fact_b14 hN C hr h
  · have h := g_ff c1 h
    refine g_iload_n C 1 dX3_fact_4 rfl ?_
    refine g_bipush (v := 40) C dX3_fact_5 (by decide) ?_
    refine g_icmp_ge C dX3_fact_7 (tgt := 14) (by decide) (fun c2 => ?_) (fun c2 => ?_)
    · have h := g_tt c2 h
      refine g_sub [0, 1, 2] rfl ?_
      exact wX3_fact_b14 hN C hr h
    · have h := g_ff c2 h
      refine g_iconst (v := 1) C dX3_fact_10 (by decide) ?_
      refine g_goto C dX3_fact_11 (tgt := 15) (by decide) ?_
      refine g_sub [0, 1, 2] rfl ?_
      exact wX3_fact_b15 hN C hr h

set_option maxHeartbeats 2000000 in
set_option maxRecDepth 20000 in
theorem kX3_fact {l : Launch} {D : va_G} {g : gT} {N : Nat} {ad ln : Nat → Nat} (hN : 183 ≤ N) {A A' : gM} {x1 : Int32} {x2 : Int32} {r : Int32} (h : mX3_fact A x1 x2 = some (A', r)) : gKi l yX3_fact cX3_fact 4 (some .int) (0) D g N ad ln A [gr 43, gi x1, gi x2] A' r := by
  refine g_meti (by decide) (Nat.le_of_ble_eq_true rfl) ?_
  intro p e s m args below meth c C hr
  refine g_sub [0, 1, 2] rfl ?_
  exact wX3_fact_b0 hN C hr h
def mX3_codeAt_b42 (A : gM) (s0 : Int32) : Option (gM × Int32) :=
  some (A, s0)
def mX3_codeAt_b41 (A : gM) : Option (gM × Int32) :=
  mX3_codeAt_b42 A 0
def mX3_codeAt_b15 (A : gM) (x1 : Int32) (x2 : Int32) (s0 : Int32) : Option (gM × Int32) :=
  if s0 = 0 then
  mX3_codeAt_b41 A
  else
  if x2 < 0 then
  mX3_codeAt_b41 A
  else
  if 60 ≤ x2 then
  mX3_codeAt_b41 A
  else
  if g_in x1 40 = true then
  if g_in x2 60 = true then
  mX3_codeAt_b42 A (A (45 + x1.toNatClampNeg) x2.toNatClampNeg)
  else none
  else none
def mX3_codeAt_b14 (A : gM) (x1 : Int32) (x2 : Int32) : Option (gM × Int32) :=
  mX3_codeAt_b15 A x1 x2 0
def mX3_codeAt_b0 (A : gM) (x1 : Int32) (x2 : Int32) : Option (gM × Int32) :=
  if x1 < 0 then
  mX3_codeAt_b14 A x1 x2
  else
  if 40 ≤ x1 then
  mX3_codeAt_b14 A x1 x2
  else
  mX3_codeAt_b15 A x1 x2 1
def mX3_codeAt (A : gM) (x1 : Int32) (x2 : Int32) : Option (gM × Int32) := mX3_codeAt_b0 A x1 x2
set_option maxHeartbeats 2000000 in
set_option maxRecDepth 20000 in
theorem wX3_codeAt_b42 (hN : 183 ≤ N) {A0 A' : gM} {r : Int32} (C : gC p R s m args meth c cX3_codeAt RX3 4 D g (va_A (gw g ad ln A0 N) s.heap.size) 0) (hr : meth.sig.returnType = some .int)  {A : gM} {s0 : Int32} (h : mX3_codeAt_b42 A s0 = some (A', r)) : gJ p l e R s m args below meth c (gEi below D g N ad ln A0 A' r args s) 4 D g (va_A (gw g ad ln A0 N) s.heap.size) N ad ln A [] 0 0 42 [gi s0] := by
  unfold mX3_codeAt_b42 at h
  obtain ⟨rfl, rfl⟩ := Prod.mk.inj (Option.some.inj h)
  exact g_reti C hr dX3_codeAt_42

set_option maxHeartbeats 2000000 in
set_option maxRecDepth 20000 in
theorem wX3_codeAt_b41 (hN : 183 ≤ N) {A0 A' : gM} {r : Int32} (C : gC p R s m args meth c cX3_codeAt RX3 4 D g (va_A (gw g ad ln A0 N) s.heap.size) 0) (hr : meth.sig.returnType = some .int)  {A : gM} (h : mX3_codeAt_b41 A = some (A', r)) : gJ p l e R s m args below meth c (gEi below D g N ad ln A0 A' r args s) 4 D g (va_A (gw g ad ln A0 N) s.heap.size) N ad ln A [] 0 0 41 [] := by
  unfold mX3_codeAt_b41 at h
  refine g_iconst (v := 0) C dX3_codeAt_41 (by decide) ?_
  refine g_sub [] rfl ?_
  exact wX3_codeAt_b42 hN C hr h

set_option maxHeartbeats 2000000 in
set_option maxRecDepth 20000 in
theorem wX3_codeAt_b15 (hN : 183 ≤ N) {A0 A' : gM} {r : Int32} (C : gC p R s m args meth c cX3_codeAt RX3 4 D g (va_A (gw g ad ln A0 N) s.heap.size) 0) (hr : meth.sig.returnType = some .int)  {A : gM} {x1 : Int32} {x2 : Int32} {s0 : Int32} (h : mX3_codeAt_b15 A x1 x2 s0 = some (A', r)) : gJ p l e R s m args below meth c (gEi below D g N ad ln A0 A' r args s) 4 D g (va_A (gw g ad ln A0 N) s.heap.size) N ad ln A [(0, gr 43), (1, gi x1), (2, gi x2)] 0 0 15 [gi s0] := by
  unfold mX3_codeAt_b15 at h
  refine g_istore_n C dX3_codeAt_15 (by decide) rfl ?_
  refine g_iload_n C 0 dX3_codeAt_16 rfl ?_
  refine g_if_eq C dX3_codeAt_17 (tgt := 41) (by decide) (fun c1 => ?_) (fun c1 => ?_)
  · have h := g_tt c1 h
    refine g_sub [] rfl ?_
    exact wX3_codeAt_b41 hN C hr h
  · have h := g_ff c1 h
    refine g_iload_n C 3 dX3_codeAt_20 rfl ?_
    refine g_if_lt C dX3_codeAt_21 (tgt := 41) (by decide) (fun c2 => ?_) (fun c2 => ?_)
    · have h := g_tt c2 h
      refine g_sub [] rfl ?_
      exact wX3_codeAt_b41 hN C hr h
    · have h := g_ff c2 h
      refine g_iload_n C 3 dX3_codeAt_24 rfl ?_
      refine g_bipush (v := 60) C dX3_codeAt_25 (by decide) ?_
      refine g_icmp_ge C dX3_codeAt_27 (tgt := 41) (by decide) (fun c3 => ?_) (fun c3 => ?_)
      · have h := g_tt c3 h
        refine g_sub [] rfl ?_
        exact wX3_codeAt_b41 hN C hr h
      · have h := g_ff c3 h
        refine g_aload_n C 1 dX3_codeAt_30 rfl ?_
        refine g_get (v := gr 44) C 43 0 (by omega) rfl rfl gu_3 (by decide) qf_X3_11 rfl dX3_codeAt_31 ?_
        refine g_iload_n C 2 dX3_codeAt_34 rfl ?_
        obtain ⟨hg4, h⟩ := g_gd h
        refine g_aald C 44 45 (by omega) rfl hg4 dX3_codeAt_35 ?_
        refine g_iload_n C 3 dX3_codeAt_36 rfl ?_
        obtain ⟨hg5, h⟩ := g_gd h
        refine g_iald C (45 + x1.toNatClampNeg) (g_row45 (ln := ln) hN hg4).1 (g_row45 (ln := ln) hN hg4).2.1 (g_row45 (ln := ln) hN hg4).2.2 hg5 dX3_codeAt_37 ?_
        refine g_goto C dX3_codeAt_38 (tgt := 42) (by decide) ?_
        refine g_sub [] rfl ?_
        exact wX3_codeAt_b42 hN C hr h

set_option maxHeartbeats 2000000 in
set_option maxRecDepth 20000 in
theorem wX3_codeAt_b14 (hN : 183 ≤ N) {A0 A' : gM} {r : Int32} (C : gC p R s m args meth c cX3_codeAt RX3 4 D g (va_A (gw g ad ln A0 N) s.heap.size) 0) (hr : meth.sig.returnType = some .int)  {A : gM} {x1 : Int32} {x2 : Int32} (h : mX3_codeAt_b14 A x1 x2 = some (A', r)) : gJ p l e R s m args below meth c (gEi below D g N ad ln A0 A' r args s) 4 D g (va_A (gw g ad ln A0 N) s.heap.size) N ad ln A [(0, gr 43), (1, gi x1), (2, gi x2)] 0 0 14 [] := by
  unfold mX3_codeAt_b14 at h
  refine g_iconst (v := 0) C dX3_codeAt_14 (by decide) ?_
  refine g_sub [0, 1, 2] rfl ?_
  exact wX3_codeAt_b15 hN C hr h

set_option maxHeartbeats 2000000 in
set_option maxRecDepth 20000 in
theorem wX3_codeAt_b0 (hN : 183 ≤ N) {A0 A' : gM} {r : Int32} (C : gC p R s m args meth c cX3_codeAt RX3 4 D g (va_A (gw g ad ln A0 N) s.heap.size) 0) (hr : meth.sig.returnType = some .int)  {A : gM} {x1 : Int32} {x2 : Int32} (h : mX3_codeAt_b0 A x1 x2 = some (A', r)) : gJ p l e R s m args below meth c (gEi below D g N ad ln A0 A' r args s) 4 D g (va_A (gw g ad ln A0 N) s.heap.size) N ad ln A [(0, gr 43), (1, gi x1), (2, gi x2)] 0 0 0 [] := by
  unfold mX3_codeAt_b0 at h
  refine g_iload_n C 1 dX3_codeAt_0 rfl ?_
  refine g_if_lt C dX3_codeAt_1 (tgt := 14) (by decide) (fun c1 => ?_) (fun c1 => ?_)
  · have h := g_tt c1 h
    refine g_sub [0, 1, 2] rfl ?_
    exact wX3_codeAt_b14 hN C hr h
  · have h := g_ff c1 h
    refine g_iload_n C 1 dX3_codeAt_4 rfl ?_
    refine g_bipush (v := 40) C dX3_codeAt_5 (by decide) ?_
    refine g_icmp_ge C dX3_codeAt_7 (tgt := 14) (by decide) (fun c2 => ?_) (fun c2 => ?_)
    · have h := g_tt c2 h
      refine g_sub [0, 1, 2] rfl ?_
      exact wX3_codeAt_b14 hN C hr h
    · have h := g_ff c2 h
      refine g_iconst (v := 1) C dX3_codeAt_10 (by decide) ?_
      refine g_goto C dX3_codeAt_11 (tgt := 15) (by decide) ?_
      refine g_sub [0, 1, 2] rfl ?_
      exact wX3_codeAt_b15 hN C hr h

set_option maxHeartbeats 2000000 in
set_option maxRecDepth 20000 in
theorem kX3_codeAt {l : Launch} {D : va_G} {g : gT} {N : Nat} {ad ln : Nat → Nat} (hN : 183 ≤ N) {A A' : gM} {x1 : Int32} {x2 : Int32} {r : Int32} (h : mX3_codeAt A x1 x2 = some (A', r)) : gKi l yX3_codeAt cX3_codeAt 4 (some .int) (0) D g N ad ln A [gr 43, gi x1, gi x2] A' r := by
  refine g_meti (by decide) (Nat.le_of_ble_eq_true rfl) ?_
  intro p e s m args below meth c C hr
  refine g_sub [0, 1, 2] rfl ?_
  exact wX3_codeAt_b0 hN C hr h
def mX3_isPair_b15 (A : gM) (s0 : Int32) : Option (gM × Int32) :=
  if (s0 : Int32) = 0 ∨ (s0 : Int32) = 1 then some (A, s0) else none
def mX3_isPair_b10 (A : gM) : Option (gM × Int32) :=
  mX3_isPair_b15 A 1
def mX3_isPair_b0 (A : gM) (x1 : Int32) : Option (gM × Int32) :=
  if x1 = 2 then
  mX3_isPair_b10 A
  else
  if x1 = 3 then
  mX3_isPair_b10 A
  else
  mX3_isPair_b15 A 0
def mX3_isPair (A : gM) (x1 : Int32) : Option (gM × Int32) := mX3_isPair_b0 A x1
set_option maxHeartbeats 2000000 in
set_option maxRecDepth 20000 in
theorem wX3_isPair_b15 (hN : 183 ≤ N) {A0 A' : gM} {r : Int32} (C : gC p R s m args meth c cX3_isPair RX3 2 D g (va_A (gw g ad ln A0 N) s.heap.size) 0) (hr : meth.sig.returnType = some .boolean)  {A : gM} {s0 : Int32} (h : mX3_isPair_b15 A s0 = some (A', r)) : gJ p l e R s m args below meth c (gEi below D g N ad ln A0 A' r args s) 2 D g (va_A (gw g ad ln A0 N) s.heap.size) N ad ln A [] 0 0 15 [gi s0] := by
  unfold mX3_isPair_b15 at h
  obtain ⟨hz1, h⟩ := g_gd h
  obtain ⟨rfl, rfl⟩ := Prod.mk.inj (Option.some.inj h)
  exact g_retz C hr hz1 dX3_isPair_15

set_option maxHeartbeats 2000000 in
set_option maxRecDepth 20000 in
theorem wX3_isPair_b10 (hN : 183 ≤ N) {A0 A' : gM} {r : Int32} (C : gC p R s m args meth c cX3_isPair RX3 2 D g (va_A (gw g ad ln A0 N) s.heap.size) 0) (hr : meth.sig.returnType = some .boolean)  {A : gM} (h : mX3_isPair_b10 A = some (A', r)) : gJ p l e R s m args below meth c (gEi below D g N ad ln A0 A' r args s) 2 D g (va_A (gw g ad ln A0 N) s.heap.size) N ad ln A [] 0 0 10 [] := by
  unfold mX3_isPair_b10 at h
  refine g_iconst (v := 1) C dX3_isPair_10 (by decide) ?_
  refine g_goto C dX3_isPair_11 (tgt := 15) (by decide) ?_
  refine g_sub [] rfl ?_
  exact wX3_isPair_b15 hN C hr h

set_option maxHeartbeats 2000000 in
set_option maxRecDepth 20000 in
theorem wX3_isPair_b0 (hN : 183 ≤ N) {A0 A' : gM} {r : Int32} (C : gC p R s m args meth c cX3_isPair RX3 2 D g (va_A (gw g ad ln A0 N) s.heap.size) 0) (hr : meth.sig.returnType = some .boolean)  {A : gM} {x1 : Int32} (h : mX3_isPair_b0 A x1 = some (A', r)) : gJ p l e R s m args below meth c (gEi below D g N ad ln A0 A' r args s) 2 D g (va_A (gw g ad ln A0 N) s.heap.size) N ad ln A [(1, gi x1)] 0 0 0 [] := by
  unfold mX3_isPair_b0 at h
  refine g_iload_n C 0 dX3_isPair_0 rfl ?_
  refine g_iconst (v := 2) C dX3_isPair_1 (by decide) ?_
  refine g_icmp_eq C dX3_isPair_2 (tgt := 10) (by decide) (fun c1 => ?_) (fun c1 => ?_)
  · have h := g_tt c1 h
    refine g_sub [] rfl ?_
    exact wX3_isPair_b10 hN C hr h
  · have h := g_ff c1 h
    refine g_iload_n C 0 dX3_isPair_5 rfl ?_
    refine g_iconst (v := 3) C dX3_isPair_6 (by decide) ?_
    refine g_icmp_ne C dX3_isPair_7 (tgt := 14) (by decide) (fun c2 => ?_) (fun c2 => ?_)
    · have h := g_ff c2 h
      refine g_iconst (v := 0) C dX3_isPair_14 (by decide) ?_
      refine g_sub [] rfl ?_
      exact wX3_isPair_b15 hN C hr h
    · have h := g_tt c2 h
      refine g_sub [] rfl ?_
      exact wX3_isPair_b10 hN C hr h

set_option maxHeartbeats 2000000 in
set_option maxRecDepth 20000 in
theorem kX3_isPair {l : Launch} {D : va_G} {g : gT} {N : Nat} {ad ln : Nat → Nat} (hN : 183 ≤ N) {A A' : gM} {x1 : Int32} {r : Int32} (h : mX3_isPair A x1 = some (A', r)) : gKi l yX3_isPair cX3_isPair 2 (some .boolean) (0) D g N ad ln A [gr 43, gi x1] A' r := by
  refine g_meti (by decide) (Nat.le_of_ble_eq_true rfl) ?_
  intro p e s m args below meth c C hr
  refine g_sub [1] rfl ?_
  exact wX3_isPair_b0 hN C hr h
def mX3_variablesIn_b5 (K5 : gM → Int32 → Int32 → Int32 → Int32 → Option (gM × Int32)) (A : gM) (x1 : Int32) (x2 : Int32) (x3 : Int32) (x4 : Int32) : Option (gM × Int32) :=
  if x2 ≤ x4 then
  some (A, x3)
  else
  (mX3_codeAt A x1 x4).bind fun q2 =>
  g_let (if x3 < ((q2.2 - 10) + 1) then ((q2.2 - 10) + 1) else x3) fun v3 =>
  g_let (x4 + 1) fun v4 =>
  K5 q2.1 x1 x2 v3 v4
def mX3_variablesIn_L5 : Nat → gM → Int32 → Int32 → Int32 → Int32 → Option (gM × Int32)
  | 0 => fun _ _ _ _ _ => none
  | f + 1 => mX3_variablesIn_b5 (mX3_variablesIn_L5 f)
def mX3_variablesIn_b0 (A : gM) (x1 : Int32) (x2 : Int32) : Option (gM × Int32) :=
  mX3_variablesIn_L5 gF A x1 x2 0 0
def mX3_variablesIn (A : gM) (x1 : Int32) (x2 : Int32) : Option (gM × Int32) := mX3_variablesIn_b0 A x1 x2
set_option maxHeartbeats 2000000 in
set_option maxRecDepth 20000 in
theorem wX3_variablesIn_b5 (hN : 183 ≤ N) {A0 A' : gM} {r : Int32} (C : gC p R s m args meth c cX3_variablesIn RX3 5 D g (va_A (gw g ad ln A0 N) s.heap.size) 1) (hr : meth.sig.returnType = some .int) {K5 : gM → Int32 → Int32 → Int32 → Int32 → Option (gM × Int32)} (hK5 : ∀ {A : gM} {x1 : Int32} {x2 : Int32} {x3 : Int32} {x4 : Int32}, K5 A x1 x2 x3 x4 = some (A', r) → gJ p l e R s m args below meth c (gEi below D g N ad ln A0 A' r args s) 5 D g (va_A (gw g ad ln A0 N) s.heap.size) N ad ln A [(0, gr 43), (1, gi x1), (2, gi x2), (3, gi x3), (4, gi x4)] 0 0 5 []) {A : gM} {x1 : Int32} {x2 : Int32} {x3 : Int32} {x4 : Int32} (h : mX3_variablesIn_b5 K5 A x1 x2 x3 x4 = some (A', r)) : gJ p l e R s m args below meth c (gEi below D g N ad ln A0 A' r args s) 5 D g (va_A (gw g ad ln A0 N) s.heap.size) N ad ln A [(0, gr 43), (1, gi x1), (2, gi x2), (3, gi x3), (4, gi x4)] 0 0 5 [] := by
  unfold mX3_variablesIn_b5 at h
  refine g_iload C 4 dX3_variablesIn_5 rfl ?_
  refine g_iload_n C 2 dX3_variablesIn_7 rfl ?_
  refine g_icmp_ge C dX3_variablesIn_8 (tgt := 34) (by decide) (fun c1 => ?_) (fun c1 => ?_)
  · have h := g_tt c1 h
    refine g_iload_n C 3 dX3_variablesIn_34 rfl ?_
    obtain ⟨rfl, rfl⟩ := Prod.mk.inj (Option.some.inj h)
    exact g_reti C hr dX3_variablesIn_35
  · have h := g_ff c1 h
    refine g_iload_n C 3 dX3_variablesIn_11 rfl ?_
    refine g_aload_n C 0 dX3_variablesIn_12 rfl ?_
    refine g_iload_n C 1 dX3_variablesIn_13 rfl ?_
    refine g_iload C 4 dX3_variablesIn_14 rfl ?_
    obtain ⟨q2, eq2, h⟩ := g_bd h
    refine g_calliV C 43 [gi x1, gi x4] (kX3_codeAt hN eq2) qs_X3_42 (by omega) (by omega) rfl rfl rfl rfl (Nat.le_of_ble_eq_true rfl) ⟨Nat.zero_le _, Nat.zero_le _⟩ dX3_variablesIn_16 ?_
    refine g_bipush (v := 10) C dX3_variablesIn_19 (by decide) ?_
    refine g_isub C dX3_variablesIn_21 ?_
    refine g_iconst (v := 1) C dX3_variablesIn_22 (by decide) ?_
    refine g_iadd C dX3_variablesIn_23 ?_
    refine g_mmax C qm_X3_45 (by decide) (Nat.le_of_ble_eq_true rfl) ⟨Nat.zero_le _, Nat.zero_le _⟩ dX3_variablesIn_24 ?_
    obtain ⟨v3, ev3, h⟩ := g_lt h
    refine g_topi ev3 ?_
    refine g_istore_n C dX3_variablesIn_27 (by decide) rfl ?_
    obtain ⟨v4, ev4, h⟩ := g_lt h
    refine g_iinc C 4 dX3_variablesIn_28 rfl ev4 (by decide) rfl ?_
    refine g_goto C dX3_variablesIn_31 (tgt := 5) (by decide) ?_
    refine g_sub [2, 3, 4, 1, 0] rfl ?_
    exact hK5 h

set_option maxHeartbeats 2000000 in
set_option maxRecDepth 20000 in
theorem wX3_variablesIn_L5 (hN : 183 ≤ N) {A0 A' : gM} {r : Int32} (C : gC p R s m args meth c cX3_variablesIn RX3 5 D g (va_A (gw g ad ln A0 N) s.heap.size) 1) (hr : meth.sig.returnType = some .int)  : ∀ (f : Nat) {A : gM} {x1 : Int32} {x2 : Int32} {x3 : Int32} {x4 : Int32}, mX3_variablesIn_L5 f A x1 x2 x3 x4 = some (A', r) → gJ p l e R s m args below meth c (gEi below D g N ad ln A0 A' r args s) 5 D g (va_A (gw g ad ln A0 N) s.heap.size) N ad ln A [(0, gr 43), (1, gi x1), (2, gi x2), (3, gi x3), (4, gi x4)] 0 0 5 []
  | 0, A, x1, x2, x3, x4, h => by cases h
  | f + 1, A, x1, x2, x3, x4, h => wX3_variablesIn_b5 hN C hr (fun {A} {x1} {x2} {x3} {x4} h => wX3_variablesIn_L5 hN C hr f h) h
set_option maxHeartbeats 2000000 in
set_option maxRecDepth 20000 in
theorem wX3_variablesIn_b0 (hN : 183 ≤ N) {A0 A' : gM} {r : Int32} (C : gC p R s m args meth c cX3_variablesIn RX3 5 D g (va_A (gw g ad ln A0 N) s.heap.size) 1) (hr : meth.sig.returnType = some .int)  {A : gM} {x1 : Int32} {x2 : Int32} (h : mX3_variablesIn_b0 A x1 x2 = some (A', r)) : gJ p l e R s m args below meth c (gEi below D g N ad ln A0 A' r args s) 5 D g (va_A (gw g ad ln A0 N) s.heap.size) N ad ln A [(0, gr 43), (1, gi x1), (2, gi x2)] 0 0 0 [] := by
  unfold mX3_variablesIn_b0 at h
  refine g_iconst (v := 0) C dX3_variablesIn_0 (by decide) ?_
  refine g_istore_n C dX3_variablesIn_1 (by decide) rfl ?_
  refine g_iconst (v := 0) C dX3_variablesIn_2 (by decide) ?_
  refine g_istore C dX3_variablesIn_3 (by decide) rfl ?_
  refine g_sub [2, 3, 4, 1, 0] rfl ?_
  exact wX3_variablesIn_L5 hN C hr gF h

set_option maxHeartbeats 2000000 in
set_option maxRecDepth 20000 in
theorem kX3_variablesIn {l : Launch} {D : va_G} {g : gT} {N : Nat} {ad ln : Nat → Nat} (hN : 183 ≤ N) {A A' : gM} {x1 : Int32} {x2 : Int32} {r : Int32} (h : mX3_variablesIn A x1 x2 = some (A', r)) : gKi l yX3_variablesIn cX3_variablesIn 5 (some .int) (1) D g N ad ln A [gr 43, gi x1, gi x2] A' r := by
  refine g_meti (by decide) (Nat.le_of_ble_eq_true rfl) ?_
  intro p e s m args below meth c C hr
  refine g_sub [0, 1, 2] rfl ?_
  exact wX3_variablesIn_b0 hN C hr h
def mX3_depthOf_b99 (A : gM) (s0 : Int32) : Option (gM × Int32) :=
  some (A, s0)
def mX3_depthOf_b77 (K7 : gM → Int32 → Int32 → Int32 → Option (gM × Int32)) (A : gM) (x1 : Int32) (x3 : Int32) (x4 : Int32) : Option (gM × Int32) :=
  g_let (x4 + (-1)) fun v1 =>
  K7 A x1 x3 v1
def mX3_depthOf_b60 (K7 : gM → Int32 → Int32 → Int32 → Option (gM × Int32)) (A : gM) (x1 : Int32) (x3 : Int32) (x4 : Int32) (x5 : Int32) : Option (gM × Int32) :=
  if 60 ≤ x3 then
  mX3_depthOf_b77 K7 A x1 x3 x4
  else
  if g_in x3 60 = true then g_let (g_up A 126 x3.toNatClampNeg x5) fun A3 =>
  g_let (x3 + 1) fun v4 =>
  mX3_depthOf_b77 K7 A3 x1 v4 x4
  else none
def mX3_depthOf_b7 (K7 : gM → Int32 → Int32 → Int32 → Option (gM × Int32)) (A : gM) (x1 : Int32) (x3 : Int32) (x4 : Int32) : Option (gM × Int32) :=
  if x4 < 0 then
  if x3 ≤ 0 then
  mX3_depthOf_b99 A 0
  else
  if g_in (x3 - 1) 60 = true then
  mX3_depthOf_b99 A (A 126 (x3 - 1).toNatClampNeg)
  else none
  else
  (mX3_codeAt A x1 x4).bind fun q4 =>
  (mX3_isPair q4.1 q4.2).bind fun q5 =>
  if q5.2 = 0 then
  mX3_depthOf_b60 K7 q5.1 x1 x3 x4 1
  else
  if x3 < 2 then
  mX3_depthOf_b60 K7 q5.1 x1 x3 x4 1
  else
  if g_in (x3 - 1) 60 = true then
  if g_in (x3 - 2) 60 = true then
  g_let (1 + (if (q5.1 126 (x3 - 1).toNatClampNeg) < (q5.1 126 (x3 - 2).toNatClampNeg) then (q5.1 126 (x3 - 2).toNatClampNeg) else (q5.1 126 (x3 - 1).toNatClampNeg))) fun v10 =>
  g_let (x3 + (-2)) fun v11 =>
  mX3_depthOf_b60 K7 q5.1 x1 v11 x4 v10
  else none
  else none
def mX3_depthOf_L7 : Nat → gM → Int32 → Int32 → Int32 → Option (gM × Int32)
  | 0 => fun _ _ _ _ => none
  | f + 1 => mX3_depthOf_b7 (mX3_depthOf_L7 f)
def mX3_depthOf_b0 (A : gM) (x1 : Int32) (x2 : Int32) : Option (gM × Int32) :=
  g_let (x2 - 1) fun v1 =>
  mX3_depthOf_L7 gF A x1 0 v1
def mX3_depthOf (A : gM) (x1 : Int32) (x2 : Int32) : Option (gM × Int32) := mX3_depthOf_b0 A x1 x2
set_option maxHeartbeats 2000000 in
set_option maxRecDepth 20000 in
theorem wX3_depthOf_b99 (hN : 183 ≤ N) {A0 A' : gM} {r : Int32} (C : gC p R s m args meth c cX3_depthOf RX3 6 D g (va_A (gw g ad ln A0 N) s.heap.size) 2) (hr : meth.sig.returnType = some .int)  {A : gM} {s0 : Int32} (h : mX3_depthOf_b99 A s0 = some (A', r)) : gJ p l e R s m args below meth c (gEi below D g N ad ln A0 A' r args s) 6 D g (va_A (gw g ad ln A0 N) s.heap.size) N ad ln A [] 0 0 99 [gi s0] := by
  unfold mX3_depthOf_b99 at h
  obtain ⟨rfl, rfl⟩ := Prod.mk.inj (Option.some.inj h)
  exact g_reti C hr dX3_depthOf_99

set_option maxHeartbeats 2000000 in
set_option maxRecDepth 20000 in
theorem wX3_depthOf_b77 (hN : 183 ≤ N) {A0 A' : gM} {r : Int32} (C : gC p R s m args meth c cX3_depthOf RX3 6 D g (va_A (gw g ad ln A0 N) s.heap.size) 2) (hr : meth.sig.returnType = some .int) {K7 : gM → Int32 → Int32 → Int32 → Option (gM × Int32)} (hK7 : ∀ {A : gM} {x1 : Int32} {x3 : Int32} {x4 : Int32}, K7 A x1 x3 x4 = some (A', r) → gJ p l e R s m args below meth c (gEi below D g N ad ln A0 A' r args s) 6 D g (va_A (gw g ad ln A0 N) s.heap.size) N ad ln A [(0, gr 43), (1, gi x1), (3, gi x3), (4, gi x4)] 0 0 7 []) {A : gM} {x1 : Int32} {x3 : Int32} {x4 : Int32} (h : mX3_depthOf_b77 K7 A x1 x3 x4 = some (A', r)) : gJ p l e R s m args below meth c (gEi below D g N ad ln A0 A' r args s) 6 D g (va_A (gw g ad ln A0 N) s.heap.size) N ad ln A [(0, gr 43), (1, gi x1), (3, gi x3), (4, gi x4)] 0 0 77 [] := by
  unfold mX3_depthOf_b77 at h
  obtain ⟨v1, ev1, h⟩ := g_lt h
  refine g_iinc C 3 dX3_depthOf_77 rfl ev1 (by decide) rfl ?_
  refine g_goto C dX3_depthOf_80 (tgt := 7) (by decide) ?_
  refine g_sub [1, 2, 3, 0] rfl ?_
  exact hK7 h

set_option maxHeartbeats 2000000 in
set_option maxRecDepth 20000 in
theorem wX3_depthOf_b60 (hN : 183 ≤ N) {A0 A' : gM} {r : Int32} (C : gC p R s m args meth c cX3_depthOf RX3 6 D g (va_A (gw g ad ln A0 N) s.heap.size) 2) (hr : meth.sig.returnType = some .int) {K7 : gM → Int32 → Int32 → Int32 → Option (gM × Int32)} (hK7 : ∀ {A : gM} {x1 : Int32} {x3 : Int32} {x4 : Int32}, K7 A x1 x3 x4 = some (A', r) → gJ p l e R s m args below meth c (gEi below D g N ad ln A0 A' r args s) 6 D g (va_A (gw g ad ln A0 N) s.heap.size) N ad ln A [(0, gr 43), (1, gi x1), (3, gi x3), (4, gi x4)] 0 0 7 []) {A : gM} {x1 : Int32} {x3 : Int32} {x4 : Int32} {x5 : Int32} (h : mX3_depthOf_b60 K7 A x1 x3 x4 x5 = some (A', r)) : gJ p l e R s m args below meth c (gEi below D g N ad ln A0 A' r args s) 6 D g (va_A (gw g ad ln A0 N) s.heap.size) N ad ln A [(0, gr 43), (1, gi x1), (3, gi x3), (4, gi x4), (5, gi x5)] 0 0 60 [] := by
  unfold mX3_depthOf_b60 at h
  refine g_iload_n C 2 dX3_depthOf_60 rfl ?_
  refine g_bipush (v := 60) C dX3_depthOf_61 (by decide) ?_
  refine g_icmp_ge C dX3_depthOf_63 (tgt := 77) (by decide) (fun c1 => ?_) (fun c1 => ?_)
  · have h := g_tt c1 h
    refine g_sub [0, 1, 2, 3] rfl ?_
    exact wX3_depthOf_b77 hN C hr hK7 h
  · have h := g_ff c1 h
    refine g_aload_n C 0 dX3_depthOf_66 rfl ?_
    refine g_get (v := gr 126) C 43 2 (by omega) rfl rfl gu_3 (by decide) qf_X3_19 rfl dX3_depthOf_67 ?_
    refine g_iload_n C 2 dX3_depthOf_70 rfl ?_
    refine g_iload C 4 dX3_depthOf_71 rfl ?_
    obtain ⟨hg2, h⟩ := g_gd h
    obtain ⟨A3, eA3, h⟩ := g_lt h
    refine g_iast C 126 (by omega) rfl rfl hg2 eA3 dX3_depthOf_73 ?_
    obtain ⟨v4, ev4, h⟩ := g_lt h
    refine g_iinc C 2 dX3_depthOf_74 rfl ev4 (by decide) rfl ?_
    refine g_sub [1, 2, 0, 3] rfl ?_
    exact wX3_depthOf_b77 hN C hr hK7 h

set_option maxHeartbeats 2000000 in
set_option maxRecDepth 20000 in
theorem wX3_depthOf_b7 (hN : 183 ≤ N) {A0 A' : gM} {r : Int32} (C : gC p R s m args meth c cX3_depthOf RX3 6 D g (va_A (gw g ad ln A0 N) s.heap.size) 2) (hr : meth.sig.returnType = some .int) {K7 : gM → Int32 → Int32 → Int32 → Option (gM × Int32)} (hK7 : ∀ {A : gM} {x1 : Int32} {x3 : Int32} {x4 : Int32}, K7 A x1 x3 x4 = some (A', r) → gJ p l e R s m args below meth c (gEi below D g N ad ln A0 A' r args s) 6 D g (va_A (gw g ad ln A0 N) s.heap.size) N ad ln A [(0, gr 43), (1, gi x1), (3, gi x3), (4, gi x4)] 0 0 7 []) {A : gM} {x1 : Int32} {x3 : Int32} {x4 : Int32} (h : mX3_depthOf_b7 K7 A x1 x3 x4 = some (A', r)) : gJ p l e R s m args below meth c (gEi below D g N ad ln A0 A' r args s) 6 D g (va_A (gw g ad ln A0 N) s.heap.size) N ad ln A [(0, gr 43), (1, gi x1), (3, gi x3), (4, gi x4)] 0 0 7 [] := by
  unfold mX3_depthOf_b7 at h
  refine g_iload C 3 dX3_depthOf_7 rfl ?_
  refine g_if_lt C dX3_depthOf_9 (tgt := 83) (by decide) (fun c1 => ?_) (fun c1 => ?_)
  · have h := g_tt c1 h
    refine g_iload_n C 2 dX3_depthOf_83 rfl ?_
    refine g_if_le C dX3_depthOf_84 (tgt := 98) (by decide) (fun c2 => ?_) (fun c2 => ?_)
    · have h := g_tt c2 h
      refine g_iconst (v := 0) C dX3_depthOf_98 (by decide) ?_
      refine g_sub [] rfl ?_
      exact wX3_depthOf_b99 hN C hr h
    · have h := g_ff c2 h
      refine g_aload_n C 0 dX3_depthOf_87 rfl ?_
      refine g_get (v := gr 126) C 43 2 (by omega) rfl rfl gu_3 (by decide) qf_X3_19 rfl dX3_depthOf_88 ?_
      refine g_iload_n C 2 dX3_depthOf_91 rfl ?_
      refine g_iconst (v := 1) C dX3_depthOf_92 (by decide) ?_
      refine g_isub C dX3_depthOf_93 ?_
      obtain ⟨hg3, h⟩ := g_gd h
      refine g_iald C 126 (by omega) rfl rfl hg3 dX3_depthOf_94 ?_
      refine g_goto C dX3_depthOf_95 (tgt := 99) (by decide) ?_
      refine g_sub [] rfl ?_
      exact wX3_depthOf_b99 hN C hr h
  · have h := g_ff c1 h
    refine g_iconst (v := 1) C dX3_depthOf_12 (by decide) ?_
    refine g_istore C dX3_depthOf_13 (by decide) rfl ?_
    refine g_aload_n C 1 dX3_depthOf_15 rfl ?_
    refine g_aload_n C 1 dX3_depthOf_16 rfl ?_
    refine g_iload_n C 2 dX3_depthOf_17 rfl ?_
    refine g_iload C 4 dX3_depthOf_18 rfl ?_
    obtain ⟨q4, eq4, h⟩ := g_bd h
    refine g_calliV C 43 [gi x1, gi x4] (kX3_codeAt hN eq4) qs_X3_42 (by omega) (by omega) rfl rfl rfl rfl (Nat.le_of_ble_eq_true rfl) ⟨Nat.zero_le _, Nat.zero_le _⟩ dX3_depthOf_20 ?_
    obtain ⟨q5, eq5, h⟩ := g_bd h
    refine g_calliV C 43 [gi q4.2] (kX3_isPair hN eq5) qs_X3_48 (by omega) (by omega) rfl rfl rfl rfl (Nat.le_of_ble_eq_true rfl) ⟨Nat.zero_le _, Nat.zero_le _⟩ dX3_depthOf_23 ?_
    refine g_if_eq C dX3_depthOf_26 (tgt := 60) (by decide) (fun c6 => ?_) (fun c6 => ?_)
    · have h := g_tt c6 h
      refine g_sub [1, 2, 3, 4, 0] rfl ?_
      exact wX3_depthOf_b60 hN C hr hK7 h
    · have h := g_ff c6 h
      refine g_iload_n C 3 dX3_depthOf_29 rfl ?_
      refine g_iconst (v := 2) C dX3_depthOf_30 (by decide) ?_
      refine g_icmp_lt C dX3_depthOf_31 (tgt := 60) (by decide) (fun c7 => ?_) (fun c7 => ?_)
      · have h := g_tt c7 h
        refine g_sub [1, 2, 3, 4, 0] rfl ?_
        exact wX3_depthOf_b60 hN C hr hK7 h
      · have h := g_ff c7 h
        refine g_iconst (v := 1) C dX3_depthOf_34 (by decide) ?_
        refine g_aload_n C 1 dX3_depthOf_35 rfl ?_
        refine g_get (v := gr 126) C 43 2 (by omega) rfl rfl gu_3 (by decide) qf_X3_19 rfl dX3_depthOf_36 ?_
        refine g_iload_n C 3 dX3_depthOf_39 rfl ?_
        refine g_iconst (v := 1) C dX3_depthOf_40 (by decide) ?_
        refine g_isub C dX3_depthOf_41 ?_
        obtain ⟨hg8, h⟩ := g_gd h
        refine g_iald C 126 (by omega) rfl rfl hg8 dX3_depthOf_42 ?_
        refine g_aload_n C 1 dX3_depthOf_43 rfl ?_
        refine g_get (v := gr 126) C 43 2 (by omega) rfl rfl gu_3 (by decide) qf_X3_19 rfl dX3_depthOf_44 ?_
        refine g_iload_n C 3 dX3_depthOf_47 rfl ?_
        refine g_iconst (v := 2) C dX3_depthOf_48 (by decide) ?_
        refine g_isub C dX3_depthOf_49 ?_
        obtain ⟨hg9, h⟩ := g_gd h
        refine g_iald C 126 (by omega) rfl rfl hg9 dX3_depthOf_50 ?_
        refine g_mmax C qm_X3_45 (by decide) (Nat.le_of_ble_eq_true rfl) ⟨Nat.zero_le _, Nat.zero_le _⟩ dX3_depthOf_51 ?_
        refine g_iadd C dX3_depthOf_54 ?_
        obtain ⟨v10, ev10, h⟩ := g_lt h
        refine g_topi ev10 ?_
        refine g_istore C dX3_depthOf_55 (by decide) rfl ?_
        obtain ⟨v11, ev11, h⟩ := g_lt h
        refine g_iinc C 3 dX3_depthOf_57 rfl ev11 (by decide) rfl ?_
        refine g_sub [2, 3, 0, 4, 1] rfl ?_
        exact wX3_depthOf_b60 hN C hr hK7 h

set_option maxHeartbeats 2000000 in
set_option maxRecDepth 20000 in
theorem wX3_depthOf_L7 (hN : 183 ≤ N) {A0 A' : gM} {r : Int32} (C : gC p R s m args meth c cX3_depthOf RX3 6 D g (va_A (gw g ad ln A0 N) s.heap.size) 2) (hr : meth.sig.returnType = some .int)  : ∀ (f : Nat) {A : gM} {x1 : Int32} {x3 : Int32} {x4 : Int32}, mX3_depthOf_L7 f A x1 x3 x4 = some (A', r) → gJ p l e R s m args below meth c (gEi below D g N ad ln A0 A' r args s) 6 D g (va_A (gw g ad ln A0 N) s.heap.size) N ad ln A [(0, gr 43), (1, gi x1), (3, gi x3), (4, gi x4)] 0 0 7 []
  | 0, A, x1, x3, x4, h => by cases h
  | f + 1, A, x1, x3, x4, h => wX3_depthOf_b7 hN C hr (fun {A} {x1} {x3} {x4} h => wX3_depthOf_L7 hN C hr f h) h
set_option maxHeartbeats 2000000 in
set_option maxRecDepth 20000 in
theorem wX3_depthOf_b0 (hN : 183 ≤ N) {A0 A' : gM} {r : Int32} (C : gC p R s m args meth c cX3_depthOf RX3 6 D g (va_A (gw g ad ln A0 N) s.heap.size) 2) (hr : meth.sig.returnType = some .int)  {A : gM} {x1 : Int32} {x2 : Int32} (h : mX3_depthOf_b0 A x1 x2 = some (A', r)) : gJ p l e R s m args below meth c (gEi below D g N ad ln A0 A' r args s) 6 D g (va_A (gw g ad ln A0 N) s.heap.size) N ad ln A [(0, gr 43), (1, gi x1), (2, gi x2)] 0 0 0 [] := by
  unfold mX3_depthOf_b0 at h
  refine g_iconst (v := 0) C dX3_depthOf_0 (by decide) ?_
  refine g_istore_n C dX3_depthOf_1 (by decide) rfl ?_
  refine g_iload_n C 3 dX3_depthOf_2 rfl ?_
  refine g_iconst (v := 1) C dX3_depthOf_3 (by decide) ?_
  refine g_isub C dX3_depthOf_4 ?_
  obtain ⟨v1, ev1, h⟩ := g_lt h
  refine g_topi ev1 ?_
  refine g_istore C dX3_depthOf_5 (by decide) rfl ?_
  refine g_sub [2, 3, 1, 0] rfl ?_
  exact wX3_depthOf_L7 hN C hr gF h

set_option maxHeartbeats 2000000 in
set_option maxRecDepth 20000 in
theorem kX3_depthOf {l : Launch} {D : va_G} {g : gT} {N : Nat} {ad ln : Nat → Nat} (hN : 183 ≤ N) {A A' : gM} {x1 : Int32} {x2 : Int32} {r : Int32} (h : mX3_depthOf A x1 x2 = some (A', r)) : gKi l yX3_depthOf cX3_depthOf 6 (some .int) (2) D g N ad ln A [gr 43, gi x1, gi x2] A' r := by
  refine g_meti (by decide) (Nat.le_of_ble_eq_true rfl) ?_
  intro p e s m args below meth c C hr
  refine g_sub [0, 1, 2] rfl ?_
  exact wX3_depthOf_b0 hN C hr h
def mX3_putFacts_b10 (A : gM) : Option (gM) :=
  some A
def mX3_putFacts_b0 (A : gM) (x1 : Int32) (x2 : Int32) (x3 : Int32) (x4 : Int32) : Option (gM) :=
  if x1 < 0 then
  mX3_putFacts_b10 A
  else
  if x1 < 40 then
  if g_in x1 40 = true then
  if g_in 0 5 = true then g_let (g_up A (86 + x1.toNatClampNeg) (0 : Int32).toNatClampNeg x2) fun A5 =>
  if g_in 1 5 = true then g_let (g_up A5 (86 + x1.toNatClampNeg) (1 : Int32).toNatClampNeg x3) fun A7 =>
  if g_in 2 5 = true then g_let (g_up A7 (86 + x1.toNatClampNeg) (2 : Int32).toNatClampNeg x4) fun A9 =>
  (mX3_variablesIn A9 x1 x4).bind fun q10 =>
  if g_in 3 5 = true then g_let (g_up q10.1 (86 + x1.toNatClampNeg) (3 : Int32).toNatClampNeg q10.2) fun A12 =>
  (mX3_depthOf A12 x1 x4).bind fun q13 =>
  if g_in 4 5 = true then g_let (g_up q13.1 (86 + x1.toNatClampNeg) (4 : Int32).toNatClampNeg q13.2) fun A15 =>
  some A15
  else none
  else none
  else none
  else none
  else none
  else none
  else
  mX3_putFacts_b10 A
def mX3_putFacts (A : gM) (x1 : Int32) (x2 : Int32) (x3 : Int32) (x4 : Int32) : Option (gM) := mX3_putFacts_b0 A x1 x2 x3 x4
set_option maxHeartbeats 2000000 in
set_option maxRecDepth 20000 in
theorem wX3_putFacts_b10 (hN : 183 ≤ N) {A0 A' : gM} (C : gC p R s m args meth c cX3_putFacts RX3 6 D g (va_A (gw g ad ln A0 N) s.heap.size) 3) (hr : meth.sig.returnType = none)  {A : gM} (h : mX3_putFacts_b10 A = some A') : gJ p l e R s m args below meth c (gEv below D g N ad ln A0 A' args s) 6 D g (va_A (gw g ad ln A0 N) s.heap.size) N ad ln A [] 0 0 10 [] := by
  unfold mX3_putFacts_b10 at h
  obtain rfl := Option.some.inj h
  exact g_retv C hr dX3_putFacts_10

set_option maxHeartbeats 2000000 in
set_option maxRecDepth 20000 in
theorem wX3_putFacts_b0 (hN : 183 ≤ N) {A0 A' : gM} (C : gC p R s m args meth c cX3_putFacts RX3 6 D g (va_A (gw g ad ln A0 N) s.heap.size) 3) (hr : meth.sig.returnType = none)  {A : gM} {x1 : Int32} {x2 : Int32} {x3 : Int32} {x4 : Int32} (h : mX3_putFacts_b0 A x1 x2 x3 x4 = some A') : gJ p l e R s m args below meth c (gEv below D g N ad ln A0 A' args s) 6 D g (va_A (gw g ad ln A0 N) s.heap.size) N ad ln A [(0, gr 43), (1, gi x1), (2, gi x2), (3, gi x3), (4, gi x4)] 0 0 0 [] := by
  unfold mX3_putFacts_b0 at h
  refine g_iload_n C 1 dX3_putFacts_0 rfl ?_
  refine g_if_lt C dX3_putFacts_1 (tgt := 10) (by decide) (fun c1 => ?_) (fun c1 => ?_)
  · have h := g_tt c1 h
    refine g_sub [] rfl ?_
    exact wX3_putFacts_b10 hN C hr h
  · have h := g_ff c1 h
    refine g_iload_n C 1 dX3_putFacts_4 rfl ?_
    refine g_bipush (v := 40) C dX3_putFacts_5 (by decide) ?_
    refine g_icmp_lt C dX3_putFacts_7 (tgt := 11) (by decide) (fun c2 => ?_) (fun c2 => ?_)
    · have h := g_tt c2 h
      refine g_aload_n C 0 dX3_putFacts_11 rfl ?_
      refine g_get (v := gr 85) C 43 1 (by omega) rfl rfl gu_3 (by decide) qf_X3_16 rfl dX3_putFacts_12 ?_
      refine g_iload_n C 1 dX3_putFacts_15 rfl ?_
      obtain ⟨hg3, h⟩ := g_gd h
      refine g_aald C 85 86 (by omega) rfl hg3 dX3_putFacts_16 ?_
      refine g_astore C dX3_putFacts_17 (by decide) rfl ?_
      refine g_aload C 0 dX3_putFacts_19 rfl ?_
      refine g_iconst (v := 0) C dX3_putFacts_21 (by decide) ?_
      refine g_iload_n C 3 dX3_putFacts_22 rfl ?_
      obtain ⟨hg4, h⟩ := g_gd h
      obtain ⟨A5, eA5, h⟩ := g_lt h
      refine g_iast C (86 + x1.toNatClampNeg) (g_row86 (ln := ln) hN hg3).1 (g_row86 (ln := ln) hN hg3).2.1 (g_row86 (ln := ln) hN hg3).2.2 hg4 eA5 dX3_putFacts_23 ?_
      refine g_aload C 0 dX3_putFacts_24 rfl ?_
      refine g_iconst (v := 1) C dX3_putFacts_26 (by decide) ?_
      refine g_iload_n C 4 dX3_putFacts_27 rfl ?_
      obtain ⟨hg6, h⟩ := g_gd h
      obtain ⟨A7, eA7, h⟩ := g_lt h
      refine g_iast C (86 + x1.toNatClampNeg) (g_row86 (ln := ln) hN hg3).1 (g_row86 (ln := ln) hN hg3).2.1 (g_row86 (ln := ln) hN hg3).2.2 hg6 eA7 dX3_putFacts_28 ?_
      refine g_aload C 0 dX3_putFacts_29 rfl ?_
      refine g_iconst (v := 2) C dX3_putFacts_31 (by decide) ?_
      refine g_iload C 5 dX3_putFacts_32 rfl ?_
      obtain ⟨hg8, h⟩ := g_gd h
      obtain ⟨A9, eA9, h⟩ := g_lt h
      refine g_iast C (86 + x1.toNatClampNeg) (g_row86 (ln := ln) hN hg3).1 (g_row86 (ln := ln) hN hg3).2.1 (g_row86 (ln := ln) hN hg3).2.2 hg8 eA9 dX3_putFacts_34 ?_
      refine g_aload C 0 dX3_putFacts_35 rfl ?_
      refine g_iconst (v := 3) C dX3_putFacts_37 (by decide) ?_
      refine g_aload_n C 1 dX3_putFacts_38 rfl ?_
      refine g_iload_n C 2 dX3_putFacts_39 rfl ?_
      refine g_iload C 5 dX3_putFacts_40 rfl ?_
      obtain ⟨q10, eq10, h⟩ := g_bd h
      refine g_calliV C 43 [gi x1, gi x4] (kX3_variablesIn hN eq10) qs_X3_36 (by omega) (by omega) rfl rfl rfl rfl (Nat.le_of_ble_eq_true rfl) ⟨Nat.zero_le _, Nat.zero_le _⟩ dX3_putFacts_42 ?_
      obtain ⟨hg11, h⟩ := g_gd h
      obtain ⟨A12, eA12, h⟩ := g_lt h
      refine g_iast C (86 + x1.toNatClampNeg) (g_row86 (ln := ln) hN hg3).1 (g_row86 (ln := ln) hN hg3).2.1 (g_row86 (ln := ln) hN hg3).2.2 hg11 eA12 dX3_putFacts_45 ?_
      refine g_aload C 0 dX3_putFacts_46 rfl ?_
      refine g_iconst (v := 4) C dX3_putFacts_48 (by decide) ?_
      refine g_aload_n C 1 dX3_putFacts_49 rfl ?_
      refine g_iload_n C 2 dX3_putFacts_50 rfl ?_
      refine g_iload C 5 dX3_putFacts_51 rfl ?_
      obtain ⟨q13, eq13, h⟩ := g_bd h
      refine g_calliV C 43 [gi x1, gi x4] (kX3_depthOf hN eq13) qs_X3_39 (by omega) (by omega) rfl rfl rfl rfl (Nat.le_of_ble_eq_true rfl) ⟨Nat.zero_le _, Nat.zero_le _⟩ dX3_putFacts_53 ?_
      obtain ⟨hg14, h⟩ := g_gd h
      obtain ⟨A15, eA15, h⟩ := g_lt h
      refine g_iast C (86 + x1.toNatClampNeg) (g_row86 (ln := ln) hN hg3).1 (g_row86 (ln := ln) hN hg3).2.1 (g_row86 (ln := ln) hN hg3).2.2 hg14 eA15 dX3_putFacts_56 ?_
      obtain rfl := Option.some.inj h
      exact g_retv C hr dX3_putFacts_57
    · have h := g_ff c2 h
      refine g_sub [] rfl ?_
      exact wX3_putFacts_b10 hN C hr h

set_option maxHeartbeats 2000000 in
set_option maxRecDepth 20000 in
theorem kX3_putFacts {l : Launch} {D : va_G} {g : gT} {N : Nat} {ad ln : Nat → Nat} (hN : 183 ≤ N) {A A' : gM} {x1 : Int32} {x2 : Int32} {x3 : Int32} {x4 : Int32} (h : mX3_putFacts A x1 x2 x3 x4 = some A') : gKv l yX3_putFacts cX3_putFacts 6 (none) (3) D g N ad ln A [gr 43, gi x1, gi x2, gi x3, gi x4] A' := by
  refine g_metv (by decide) (Nat.le_of_ble_eq_true rfl) ?_
  intro p e s m args below meth c C hr
  refine g_sub [0, 1, 2, 3, 4] rfl ?_
  exact wX3_putFacts_b0 hN C hr h
def mX3_putFault_b0 (A : gM) (x1 : Int32) (x2 : Int32) (x3 : Int32) : Option (gM) :=
  (mX3_putFacts A x1 x2 x3 0).bind fun q1 =>
  some q1
def mX3_putFault (A : gM) (x1 : Int32) (x2 : Int32) (x3 : Int32) : Option (gM) := mX3_putFault_b0 A x1 x2 x3
set_option maxHeartbeats 2000000 in
set_option maxRecDepth 20000 in
theorem wX3_putFault_b0 (hN : 183 ≤ N) {A0 A' : gM} (C : gC p R s m args meth c cX3_putFault RX3 4 D g (va_A (gw g ad ln A0 N) s.heap.size) 4) (hr : meth.sig.returnType = none)  {A : gM} {x1 : Int32} {x2 : Int32} {x3 : Int32} (h : mX3_putFault_b0 A x1 x2 x3 = some A') : gJ p l e R s m args below meth c (gEv below D g N ad ln A0 A' args s) 4 D g (va_A (gw g ad ln A0 N) s.heap.size) N ad ln A [(0, gr 43), (1, gi x1), (2, gi x2), (3, gi x3)] 0 0 0 [] := by
  unfold mX3_putFault_b0 at h
  refine g_aload_n C 0 dX3_putFault_0 rfl ?_
  refine g_iload_n C 1 dX3_putFault_1 rfl ?_
  refine g_iload_n C 2 dX3_putFault_2 rfl ?_
  refine g_iload_n C 3 dX3_putFault_3 rfl ?_
  refine g_iconst (v := 0) C dX3_putFault_4 (by decide) ?_
  obtain ⟨q1, eq1, h⟩ := g_bd h
  refine g_callvV C 43 [gi x1, gi x2, gi x3, gi 0] (kX3_putFacts hN eq1) qs_X3_26 (by omega) (by omega) rfl rfl rfl rfl (Nat.le_of_ble_eq_true rfl) ⟨Nat.zero_le _, Nat.zero_le _⟩ dX3_putFault_5 ?_
  obtain rfl := Option.some.inj h
  exact g_retv C hr dX3_putFault_8

set_option maxHeartbeats 2000000 in
set_option maxRecDepth 20000 in
theorem kX3_putFault {l : Launch} {D : va_G} {g : gT} {N : Nat} {ad ln : Nat → Nat} (hN : 183 ≤ N) {A A' : gM} {x1 : Int32} {x2 : Int32} {x3 : Int32} (h : mX3_putFault A x1 x2 x3 = some A') : gKv l yX3_putFault cX3_putFault 4 (none) (4) D g N ad ln A [gr 43, gi x1, gi x2, gi x3] A' := by
  refine g_metv (by decide) (Nat.le_of_ble_eq_true rfl) ?_
  intro p e s m args below meth c C hr
  refine g_sub [0, 1, 2, 3] rfl ?_
  exact wX3_putFault_b0 hN C hr h
def mX3_putRow_b10 (A : gM) : Option (gM) :=
  some A
def mX3_putRow_b58 (A : gM) (x1 : Int32) (x3 : Int32) : Option (gM) :=
  (mX3_putFacts A x1 0 (-1) (if 60 < x3 then 60 else x3)).bind fun q1 =>
  some q1
def mX3_putRow_b22 (K22 : gM → Int32 → Int32 → Nat → Int32 → Option (gM)) (A : gM) (x1 : Int32) (x3 : Int32) (x4 : Nat) (x5 : Int32) : Option (gM) :=
  if x3 ≤ x5 then
  mX3_putRow_b58 A x1 x3
  else
  if 60 ≤ x5 then
  mX3_putRow_b58 A x1 x3
  else
  if 60 ≤ x5 then
  mX3_putRow_b58 A x1 x3
  else
  if g_in x5 60 = true then
  if g_in x5 60 = true then g_let (g_up A x4 x5.toNatClampNeg (A 182 x5.toNatClampNeg)) fun A6 =>
  g_let (x5 + 1) fun v7 =>
  K22 A6 x1 x3 x4 v7
  else none
  else none
def mX3_putRow_L22 : Nat → gM → Int32 → Int32 → Nat → Int32 → Option (gM)
  | 0 => fun _ _ _ _ _ => none
  | f + 1 => mX3_putRow_b22 (mX3_putRow_L22 f)
def mX3_putRow_b0 (A : gM) (x1 : Int32) (x3 : Int32) : Option (gM) :=
  if x1 < 0 then
  mX3_putRow_b10 A
  else
  if x1 < 40 then
  if g_in x1 40 = true then
  mX3_putRow_L22 gF A x1 x3 (45 + x1.toNatClampNeg) 0
  else none
  else
  mX3_putRow_b10 A
def mX3_putRow (A : gM) (x1 : Int32) (x3 : Int32) : Option (gM) := mX3_putRow_b0 A x1 x3
set_option maxHeartbeats 2000000 in
set_option maxRecDepth 20000 in
theorem wX3_putRow_b10 (hN : 183 ≤ N) {A0 A' : gM} (C : gC p R s m args meth c cX3_putRow RX3 6 D g (va_A (gw g ad ln A0 N) s.heap.size) 4) (hr : meth.sig.returnType = none)  {A : gM} (h : mX3_putRow_b10 A = some A') : gJ p l e R s m args below meth c (gEv below D g N ad ln A0 A' args s) 6 D g (va_A (gw g ad ln A0 N) s.heap.size) N ad ln A [] 0 0 10 [] := by
  unfold mX3_putRow_b10 at h
  obtain rfl := Option.some.inj h
  exact g_retv C hr dX3_putRow_10

set_option maxHeartbeats 2000000 in
set_option maxRecDepth 20000 in
theorem wX3_putRow_b58 (hN : 183 ≤ N) {A0 A' : gM} (C : gC p R s m args meth c cX3_putRow RX3 6 D g (va_A (gw g ad ln A0 N) s.heap.size) 4) (hr : meth.sig.returnType = none)  {A : gM} {x1 : Int32} {x3 : Int32} (h : mX3_putRow_b58 A x1 x3 = some A') : gJ p l e R s m args below meth c (gEv below D g N ad ln A0 A' args s) 6 D g (va_A (gw g ad ln A0 N) s.heap.size) N ad ln A [(0, gr 43), (1, gi x1), (3, gi x3)] 0 0 58 [] := by
  unfold mX3_putRow_b58 at h
  refine g_aload_n C 0 dX3_putRow_58 rfl ?_
  refine g_iload_n C 1 dX3_putRow_59 rfl ?_
  refine g_iconst (v := 0) C dX3_putRow_60 (by decide) ?_
  refine g_iconst (v := (-1)) C dX3_putRow_61 (by decide) ?_
  refine g_iload_n C 2 dX3_putRow_62 rfl ?_
  refine g_bipush (v := 60) C dX3_putRow_63 (by decide) ?_
  refine g_mmin C qm_X3_30 (by decide) (Nat.le_of_ble_eq_true rfl) ⟨Nat.zero_le _, Nat.zero_le _⟩ dX3_putRow_65 ?_
  obtain ⟨q1, eq1, h⟩ := g_bd h
  refine g_callvV C 43 [gi x1, gi 0, gi (-1), gi (if 60 < x3 then 60 else x3)] (kX3_putFacts hN eq1) qs_X3_26 (by omega) (by omega) rfl rfl rfl rfl (Nat.le_of_ble_eq_true rfl) ⟨Nat.zero_le _, Nat.zero_le _⟩ dX3_putRow_68 ?_
  obtain rfl := Option.some.inj h
  exact g_retv C hr dX3_putRow_71

set_option maxHeartbeats 2000000 in
set_option maxRecDepth 20000 in
theorem wX3_putRow_b22 (hN : 183 ≤ N) {A0 A' : gM} (C : gC p R s m args meth c cX3_putRow RX3 6 D g (va_A (gw g ad ln A0 N) s.heap.size) 4) (hr : meth.sig.returnType = none) {K22 : gM → Int32 → Int32 → Nat → Int32 → Option (gM)} (hK22 : ∀ {A : gM} {x1 : Int32} {x3 : Int32} {x4 : Nat} {x5 : Int32} (hx4 : (x4 < N ∧ g_isI x4 = true ∧ g_ln ln x4 = 60)), K22 A x1 x3 x4 x5 = some A' → gJ p l e R s m args below meth c (gEv below D g N ad ln A0 A' args s) 6 D g (va_A (gw g ad ln A0 N) s.heap.size) N ad ln A [(0, gr 43), (1, gi x1), (2, gr 182), (3, gi x3), (4, gr x4), (5, gi x5)] 0 0 22 []) {A : gM} {x1 : Int32} {x3 : Int32} {x4 : Nat} {x5 : Int32} (hx4 : (x4 < N ∧ g_isI x4 = true ∧ g_ln ln x4 = 60)) (h : mX3_putRow_b22 K22 A x1 x3 x4 x5 = some A') : gJ p l e R s m args below meth c (gEv below D g N ad ln A0 A' args s) 6 D g (va_A (gw g ad ln A0 N) s.heap.size) N ad ln A [(0, gr 43), (1, gi x1), (2, gr 182), (3, gi x3), (4, gr x4), (5, gi x5)] 0 0 22 [] := by
  unfold mX3_putRow_b22 at h
  refine g_iload C 5 dX3_putRow_22 rfl ?_
  refine g_iload_n C 3 dX3_putRow_24 rfl ?_
  refine g_icmp_ge C dX3_putRow_25 (tgt := 58) (by decide) (fun c1 => ?_) (fun c1 => ?_)
  · have h := g_tt c1 h
    refine g_sub [0, 1, 3] rfl ?_
    exact wX3_putRow_b58 hN C hr h
  · have h := g_ff c1 h
    refine g_iload C 5 dX3_putRow_28 rfl ?_
    refine g_aload_n C 2 dX3_putRow_30 rfl ?_
    refine g_alen (v := 60) C 182 (by omega) rfl rfl dX3_putRow_31 ?_
    refine g_icmp_ge C dX3_putRow_32 (tgt := 58) (by decide) (fun c2 => ?_) (fun c2 => ?_)
    · have h := g_tt c2 h
      refine g_sub [0, 1, 3] rfl ?_
      exact wX3_putRow_b58 hN C hr h
    · have h := g_ff c2 h
      refine g_iload C 5 dX3_putRow_35 rfl ?_
      refine g_aload C 4 dX3_putRow_37 rfl ?_
      refine g_alen (v := 60) C x4 hx4.1 hx4.2.1 (by rw [hx4.2.2]; rfl) dX3_putRow_39 ?_
      refine g_icmp_ge C dX3_putRow_40 (tgt := 58) (by decide) (fun c3 => ?_) (fun c3 => ?_)
      · have h := g_tt c3 h
        refine g_sub [0, 1, 3] rfl ?_
        exact wX3_putRow_b58 hN C hr h
      · have h := g_ff c3 h
        refine g_aload C 4 dX3_putRow_43 rfl ?_
        refine g_iload C 5 dX3_putRow_45 rfl ?_
        refine g_aload_n C 2 dX3_putRow_47 rfl ?_
        refine g_iload C 5 dX3_putRow_48 rfl ?_
        obtain ⟨hg4, h⟩ := g_gd h
        refine g_iald C 182 (by omega) rfl rfl hg4 dX3_putRow_50 ?_
        obtain ⟨hg5, h⟩ := g_gd h
        obtain ⟨A6, eA6, h⟩ := g_lt h
        refine g_iast C x4 hx4.1 hx4.2.1 hx4.2.2 hg5 eA6 dX3_putRow_51 ?_
        obtain ⟨v7, ev7, h⟩ := g_lt h
        refine g_iinc C 5 dX3_putRow_52 rfl ev7 (by decide) rfl ?_
        refine g_goto C dX3_putRow_55 (tgt := 22) (by decide) ?_
        refine g_sub [1, 2, 3, 4, 5, 0] rfl ?_
        exact hK22 hx4 h

set_option maxHeartbeats 2000000 in
set_option maxRecDepth 20000 in
theorem wX3_putRow_L22 (hN : 183 ≤ N) {A0 A' : gM} (C : gC p R s m args meth c cX3_putRow RX3 6 D g (va_A (gw g ad ln A0 N) s.heap.size) 4) (hr : meth.sig.returnType = none)  : ∀ (f : Nat) {A : gM} {x1 : Int32} {x3 : Int32} {x4 : Nat} {x5 : Int32} (hx4 : (x4 < N ∧ g_isI x4 = true ∧ g_ln ln x4 = 60)), mX3_putRow_L22 f A x1 x3 x4 x5 = some A' → gJ p l e R s m args below meth c (gEv below D g N ad ln A0 A' args s) 6 D g (va_A (gw g ad ln A0 N) s.heap.size) N ad ln A [(0, gr 43), (1, gi x1), (2, gr 182), (3, gi x3), (4, gr x4), (5, gi x5)] 0 0 22 []
  | 0, A, x1, x3, x4, x5, hx4, h => by cases h
  | f + 1, A, x1, x3, x4, x5, hx4, h => wX3_putRow_b22 hN C hr (fun {A} {x1} {x3} {x4} {x5} hx4 h => wX3_putRow_L22 hN C hr f hx4 h) hx4 h
set_option maxHeartbeats 2000000 in
set_option maxRecDepth 20000 in
theorem wX3_putRow_b0 (hN : 183 ≤ N) {A0 A' : gM} (C : gC p R s m args meth c cX3_putRow RX3 6 D g (va_A (gw g ad ln A0 N) s.heap.size) 4) (hr : meth.sig.returnType = none)  {A : gM} {x1 : Int32} {x3 : Int32} (h : mX3_putRow_b0 A x1 x3 = some A') : gJ p l e R s m args below meth c (gEv below D g N ad ln A0 A' args s) 6 D g (va_A (gw g ad ln A0 N) s.heap.size) N ad ln A [(0, gr 43), (1, gi x1), (2, gr 182), (3, gi x3)] 0 0 0 [] := by
  unfold mX3_putRow_b0 at h
  refine g_iload_n C 1 dX3_putRow_0 rfl ?_
  refine g_if_lt C dX3_putRow_1 (tgt := 10) (by decide) (fun c1 => ?_) (fun c1 => ?_)
  · have h := g_tt c1 h
    refine g_sub [] rfl ?_
    exact wX3_putRow_b10 hN C hr h
  · have h := g_ff c1 h
    refine g_iload_n C 1 dX3_putRow_4 rfl ?_
    refine g_bipush (v := 40) C dX3_putRow_5 (by decide) ?_
    refine g_icmp_lt C dX3_putRow_7 (tgt := 11) (by decide) (fun c2 => ?_) (fun c2 => ?_)
    · have h := g_tt c2 h
      refine g_aload_n C 0 dX3_putRow_11 rfl ?_
      refine g_get (v := gr 44) C 43 0 (by omega) rfl rfl gu_3 (by decide) qf_X3_11 rfl dX3_putRow_12 ?_
      refine g_iload_n C 1 dX3_putRow_15 rfl ?_
      obtain ⟨hg3, h⟩ := g_gd h
      refine g_aald C 44 45 (by omega) rfl hg3 dX3_putRow_16 ?_
      refine g_astore C dX3_putRow_17 (by decide) rfl ?_
      refine g_iconst (v := 0) C dX3_putRow_19 (by decide) ?_
      refine g_istore C dX3_putRow_20 (by decide) rfl ?_
      refine g_sub [2, 3, 4, 5, 1, 0] rfl ?_
      exact wX3_putRow_L22 hN C hr gF (g_row45 (ln := ln) hN hg3) h
    · have h := g_ff c2 h
      refine g_sub [] rfl ?_
      exact wX3_putRow_b10 hN C hr h

set_option maxHeartbeats 2000000 in
set_option maxRecDepth 20000 in
theorem kX3_putRow {l : Launch} {D : va_G} {g : gT} {N : Nat} {ad ln : Nat → Nat} (hN : 183 ≤ N) {A A' : gM} {x1 : Int32} {x3 : Int32} (h : mX3_putRow A x1 x3 = some A') : gKv l yX3_putRow cX3_putRow 6 (none) (4) D g N ad ln A [gr 43, gi x1, gr 182, gi x3] A' := by
  refine g_metv (by decide) (Nat.le_of_ble_eq_true rfl) ?_
  intro p e s m args below meth c C hr
  refine g_sub [0, 1, 2, 3] rfl ?_
  exact wX3_putRow_b0 hN C hr h
def mX3_alike_b22 (K22 : gM → Int32 → Int32 → Int32 → Int32 → Option (gM × Int32)) (A : gM) (x1 : Int32) (x2 : Int32) (x3 : Int32) (x4 : Int32) : Option (gM × Int32) :=
  if x3 ≤ x4 then
  if (1 : Int32) = 0 ∨ (1 : Int32) = 1 then some (A, 1) else none
  else
  (mX3_codeAt A x1 x4).bind fun q3 =>
  (mX3_codeAt q3.1 x2 x4).bind fun q4 =>
  if q3.2 = q4.2 then
  g_let (x4 + 1) fun v6 =>
  K22 q4.1 x1 x2 x3 v6
  else
  if (0 : Int32) = 0 ∨ (0 : Int32) = 1 then some (q4.1, 0) else none
def mX3_alike_L22 : Nat → gM → Int32 → Int32 → Int32 → Int32 → Option (gM × Int32)
  | 0 => fun _ _ _ _ _ => none
  | f + 1 => mX3_alike_b22 (mX3_alike_L22 f)
def mX3_alike_b0 (A : gM) (x1 : Int32) (x2 : Int32) : Option (gM × Int32) :=
  (mX3_fact A x1 2).bind fun q1 =>
  (mX3_fact q1.1 x2 2).bind fun q2 =>
  if q1.2 = q2.2 then
  mX3_alike_L22 gF q2.1 x1 x2 q1.2 0
  else
  if (0 : Int32) = 0 ∨ (0 : Int32) = 1 then some (q2.1, 0) else none
def mX3_alike (A : gM) (x1 : Int32) (x2 : Int32) : Option (gM × Int32) := mX3_alike_b0 A x1 x2
set_option maxHeartbeats 2000000 in
set_option maxRecDepth 20000 in
theorem wX3_alike_b22 (hN : 183 ≤ N) {A0 A' : gM} {r : Int32} (C : gC p R s m args meth c cX3_alike RX3 5 D g (va_A (gw g ad ln A0 N) s.heap.size) 1) (hr : meth.sig.returnType = some .boolean) {K22 : gM → Int32 → Int32 → Int32 → Int32 → Option (gM × Int32)} (hK22 : ∀ {A : gM} {x1 : Int32} {x2 : Int32} {x3 : Int32} {x4 : Int32}, K22 A x1 x2 x3 x4 = some (A', r) → gJ p l e R s m args below meth c (gEi below D g N ad ln A0 A' r args s) 5 D g (va_A (gw g ad ln A0 N) s.heap.size) N ad ln A [(0, gr 43), (1, gi x1), (2, gi x2), (3, gi x3), (4, gi x4)] 0 0 22 []) {A : gM} {x1 : Int32} {x2 : Int32} {x3 : Int32} {x4 : Int32} (h : mX3_alike_b22 K22 A x1 x2 x3 x4 = some (A', r)) : gJ p l e R s m args below meth c (gEi below D g N ad ln A0 A' r args s) 5 D g (va_A (gw g ad ln A0 N) s.heap.size) N ad ln A [(0, gr 43), (1, gi x1), (2, gi x2), (3, gi x3), (4, gi x4)] 0 0 22 [] := by
  unfold mX3_alike_b22 at h
  refine g_iload C 4 dX3_alike_22 rfl ?_
  refine g_iload_n C 3 dX3_alike_24 rfl ?_
  refine g_icmp_ge C dX3_alike_25 (tgt := 53) (by decide) (fun c1 => ?_) (fun c1 => ?_)
  · have h := g_tt c1 h
    refine g_iconst (v := 1) C dX3_alike_53 (by decide) ?_
    obtain ⟨hz2, h⟩ := g_gd h
    obtain ⟨rfl, rfl⟩ := Prod.mk.inj (Option.some.inj h)
    exact g_retz C hr hz2 dX3_alike_54
  · have h := g_ff c1 h
    refine g_aload_n C 0 dX3_alike_28 rfl ?_
    refine g_iload_n C 1 dX3_alike_29 rfl ?_
    refine g_iload C 4 dX3_alike_30 rfl ?_
    obtain ⟨q3, eq3, h⟩ := g_bd h
    refine g_calliV C 43 [gi x1, gi x4] (kX3_codeAt hN eq3) qs_X3_42 (by omega) (by omega) rfl rfl rfl rfl (Nat.le_of_ble_eq_true rfl) ⟨Nat.zero_le _, Nat.zero_le _⟩ dX3_alike_32 ?_
    refine g_aload_n C 0 dX3_alike_35 rfl ?_
    refine g_iload_n C 2 dX3_alike_36 rfl ?_
    refine g_iload C 4 dX3_alike_37 rfl ?_
    obtain ⟨q4, eq4, h⟩ := g_bd h
    refine g_calliV C 43 [gi x2, gi x4] (kX3_codeAt hN eq4) qs_X3_42 (by omega) (by omega) rfl rfl rfl rfl (Nat.le_of_ble_eq_true rfl) ⟨Nat.zero_le _, Nat.zero_le _⟩ dX3_alike_39 ?_
    refine g_icmp_eq C dX3_alike_42 (tgt := 47) (by decide) (fun c5 => ?_) (fun c5 => ?_)
    · have h := g_tt c5 h
      obtain ⟨v6, ev6, h⟩ := g_lt h
      refine g_iinc C 4 dX3_alike_47 rfl ev6 (by decide) rfl ?_
      refine g_goto C dX3_alike_50 (tgt := 22) (by decide) ?_
      refine g_sub [1, 2, 3, 4, 0] rfl ?_
      exact hK22 h
    · have h := g_ff c5 h
      refine g_iconst (v := 0) C dX3_alike_45 (by decide) ?_
      obtain ⟨hz7, h⟩ := g_gd h
      obtain ⟨rfl, rfl⟩ := Prod.mk.inj (Option.some.inj h)
      exact g_retz C hr hz7 dX3_alike_46

set_option maxHeartbeats 2000000 in
set_option maxRecDepth 20000 in
theorem wX3_alike_L22 (hN : 183 ≤ N) {A0 A' : gM} {r : Int32} (C : gC p R s m args meth c cX3_alike RX3 5 D g (va_A (gw g ad ln A0 N) s.heap.size) 1) (hr : meth.sig.returnType = some .boolean)  : ∀ (f : Nat) {A : gM} {x1 : Int32} {x2 : Int32} {x3 : Int32} {x4 : Int32}, mX3_alike_L22 f A x1 x2 x3 x4 = some (A', r) → gJ p l e R s m args below meth c (gEi below D g N ad ln A0 A' r args s) 5 D g (va_A (gw g ad ln A0 N) s.heap.size) N ad ln A [(0, gr 43), (1, gi x1), (2, gi x2), (3, gi x3), (4, gi x4)] 0 0 22 []
  | 0, A, x1, x2, x3, x4, h => by cases h
  | f + 1, A, x1, x2, x3, x4, h => wX3_alike_b22 hN C hr (fun {A} {x1} {x2} {x3} {x4} h => wX3_alike_L22 hN C hr f h) h
set_option maxHeartbeats 2000000 in
set_option maxRecDepth 20000 in
theorem wX3_alike_b0 (hN : 183 ≤ N) {A0 A' : gM} {r : Int32} (C : gC p R s m args meth c cX3_alike RX3 5 D g (va_A (gw g ad ln A0 N) s.heap.size) 1) (hr : meth.sig.returnType = some .boolean)  {A : gM} {x1 : Int32} {x2 : Int32} (h : mX3_alike_b0 A x1 x2 = some (A', r)) : gJ p l e R s m args below meth c (gEi below D g N ad ln A0 A' r args s) 5 D g (va_A (gw g ad ln A0 N) s.heap.size) N ad ln A [(0, gr 43), (1, gi x1), (2, gi x2)] 0 0 0 [] := by
  unfold mX3_alike_b0 at h
  refine g_aload_n C 0 dX3_alike_0 rfl ?_
  refine g_iload_n C 1 dX3_alike_1 rfl ?_
  refine g_iconst (v := 2) C dX3_alike_2 (by decide) ?_
  obtain ⟨q1, eq1, h⟩ := g_bd h
  refine g_calliV C 43 [gi x1, gi 2] (kX3_fact hN eq1) qs_X3_52 (by omega) (by omega) rfl rfl rfl rfl (Nat.le_of_ble_eq_true rfl) ⟨Nat.zero_le _, Nat.zero_le _⟩ dX3_alike_3 ?_
  refine g_istore_n C dX3_alike_6 (by decide) rfl ?_
  refine g_iload_n C 0 dX3_alike_7 rfl ?_
  refine g_aload_n C 1 dX3_alike_8 rfl ?_
  refine g_iload_n C 3 dX3_alike_9 rfl ?_
  refine g_iconst (v := 2) C dX3_alike_10 (by decide) ?_
  obtain ⟨q2, eq2, h⟩ := g_bd h
  refine g_calliV C 43 [gi x2, gi 2] (kX3_fact hN eq2) qs_X3_52 (by omega) (by omega) rfl rfl rfl rfl (Nat.le_of_ble_eq_true rfl) ⟨Nat.zero_le _, Nat.zero_le _⟩ dX3_alike_11 ?_
  refine g_icmp_eq C dX3_alike_14 (tgt := 19) (by decide) (fun c3 => ?_) (fun c3 => ?_)
  · have h := g_tt c3 h
    refine g_iconst (v := 0) C dX3_alike_19 (by decide) ?_
    refine g_istore C dX3_alike_20 (by decide) rfl ?_
    refine g_sub [2, 3, 4, 1, 0] rfl ?_
    exact wX3_alike_L22 hN C hr gF h
  · have h := g_ff c3 h
    refine g_iconst (v := 0) C dX3_alike_17 (by decide) ?_
    obtain ⟨hz4, h⟩ := g_gd h
    obtain ⟨rfl, rfl⟩ := Prod.mk.inj (Option.some.inj h)
    exact g_retz C hr hz4 dX3_alike_18

set_option maxHeartbeats 2000000 in
set_option maxRecDepth 20000 in
theorem kX3_alike {l : Launch} {D : va_G} {g : gT} {N : Nat} {ad ln : Nat → Nat} (hN : 183 ≤ N) {A A' : gM} {x1 : Int32} {x2 : Int32} {r : Int32} (h : mX3_alike A x1 x2 = some (A', r)) : gKi l yX3_alike cX3_alike 5 (some .boolean) (1) D g N ad ln A [gr 43, gi x1, gi x2] A' r := by
  refine g_meti (by decide) (Nat.le_of_ble_eq_true rfl) ?_
  intro p e s m args below meth c C hr
  refine g_sub [0, 1, 2] rfl ?_
  exact wX3_alike_b0 hN C hr h
end T1
