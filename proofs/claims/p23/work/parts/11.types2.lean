theorem qf_X2_11 : Cond.fieldLink RX2 11 (TX2 0).1 (TX2 0).2.1 (TX2 0).2.2.1 ∈ gtb := g_tb (List.mem_of_getElem? (i := 62) (by decide +kernel)) (by decide +kernel)
theorem qf_X2_16 : Cond.fieldLink RX2 16 (TX2 1).1 (TX2 1).2.1 (TX2 1).2.2.1 ∈ gtb := g_tb (List.mem_of_getElem? (i := 63) (by decide +kernel)) (by decide +kernel)
theorem qf_X4_33 : Cond.fieldLink RX4 33 (TX4 7).1 (TX4 7).2.1 (TX4 7).2.2.1 ∈ gtb := g_tb (List.mem_of_getElem? (i := 109) (by decide +kernel)) (by decide +kernel)
theorem qf_X4_70 : Cond.fieldLink RX4 70 (TX4 8).1 (TX4 8).2.1 (TX4 8).2.2.1 ∈ gtb := g_tb (List.mem_of_getElem? (i := 110) (by decide +kernel)) (by decide +kernel)
theorem qm_X2_35 : g_siteM RX2 35 Lib.Math.max.name Lib.Math.max.code := ⟨g_tb (List.mem_of_getElem? (i := 297) (by decide +kernel)) (by decide +kernel), g_tb (List.mem_of_getElem? (i := 298) (by decide +kernel)) (by decide +kernel), g_tb (List.mem_of_getElem? (i := 39) (by decide +kernel)) (by decide +kernel), g_tb (List.mem_of_getElem? (i := 299) (by decide +kernel)) (by decide +kernel)⟩
theorem qm_X4_82 : g_siteM RX4 82 Lib.Math.min.name Lib.Math.min.code := ⟨g_tb (List.mem_of_getElem? (i := 348) (by decide +kernel)) (by decide +kernel), g_tb (List.mem_of_getElem? (i := 334) (by decide +kernel)) (by decide +kernel), g_tb (List.mem_of_getElem? (i := 39) (by decide +kernel)) (by decide +kernel), g_tb (List.mem_of_getElem? (i := 335) (by decide +kernel)) (by decide +kernel)⟩
theorem qs_X2_20 : g_site RX2 RX2 20 yX2_sizeOf cX2_sizeOf 2 (some .int) 1 := ⟨g_tb (List.mem_of_getElem? (i := 261) (by decide +kernel)) (by decide +kernel), g_tb (List.mem_of_getElem? (i := 263) (by decide +kernel)) (by decide +kernel), g_tb (List.mem_of_getElem? (i := 3) (by decide +kernel)) (by decide +kernel), g_tb (List.mem_of_getElem? (i := 34) (by decide +kernel)) (by decide +kernel), g_tb (List.mem_of_getElem? (i := 264) (by decide +kernel)) (by decide +kernel), ⟨rfl, by decide, by decide, by decide +kernel⟩, by decide⟩
theorem qs_X2_24 : g_site RX2 RX2 24 yX2_fact cX2_fact 4 (some .int) 2 := ⟨g_tb (List.mem_of_getElem? (i := 265) (by decide +kernel)) (by decide +kernel), g_tb (List.mem_of_getElem? (i := 266) (by decide +kernel)) (by decide +kernel), g_tb (List.mem_of_getElem? (i := 267) (by decide +kernel)) (by decide +kernel), g_tb (List.mem_of_getElem? (i := 34) (by decide +kernel)) (by decide +kernel), g_tb (List.mem_of_getElem? (i := 268) (by decide +kernel)) (by decide +kernel), ⟨rfl, by decide, by decide, by decide +kernel⟩, by decide⟩
theorem qs_X2_28 : g_site RX2 RX2 28 yX2_sizeOver cX2_sizeOver 4 (some .int) 3 := ⟨g_tb (List.mem_of_getElem? (i := 292) (by decide +kernel)) (by decide +kernel), g_tb (List.mem_of_getElem? (i := 258) (by decide +kernel)) (by decide +kernel), g_tb (List.mem_of_getElem? (i := 259) (by decide +kernel)) (by decide +kernel), g_tb (List.mem_of_getElem? (i := 34) (by decide +kernel)) (by decide +kernel), g_tb (List.mem_of_getElem? (i := 260) (by decide +kernel)) (by decide +kernel), ⟨rfl, by decide, by decide, by decide +kernel⟩, by decide⟩
theorem qs_X2_32 : g_site RX2 RX2 32 yX2_depthOf cX2_depthOf 2 (some .int) 1 := ⟨g_tb (List.mem_of_getElem? (i := 293) (by decide +kernel)) (by decide +kernel), g_tb (List.mem_of_getElem? (i := 295) (by decide +kernel)) (by decide +kernel), g_tb (List.mem_of_getElem? (i := 4) (by decide +kernel)) (by decide +kernel), g_tb (List.mem_of_getElem? (i := 34) (by decide +kernel)) (by decide +kernel), g_tb (List.mem_of_getElem? (i := 296) (by decide +kernel)) (by decide +kernel), ⟨rfl, by decide, by decide, by decide +kernel⟩, by decide⟩
theorem qs_X4_73 : g_site RX4 RX4 73 yX4_codeOf cX4_codeOf 2 (some .int) 1 := ⟨g_tb (List.mem_of_getElem? (i := 431) (by decide +kernel)) (by decide +kernel), g_tb (List.mem_of_getElem? (i := 433) (by decide +kernel)) (by decide +kernel), g_tb (List.mem_of_getElem? (i := 16) (by decide +kernel)) (by decide +kernel), g_tb (List.mem_of_getElem? (i := 37) (by decide +kernel)) (by decide +kernel), g_tb (List.mem_of_getElem? (i := 434) (by decide +kernel)) (by decide +kernel), ⟨rfl, by decide, by decide, by decide +kernel⟩, by decide⟩
theorem qs_X4_76 : g_site RX4 RX4 76 yX4_codeOfNode cX4_codeOfNode 2 (some .int) 1 := ⟨g_tb (List.mem_of_getElem? (i := 435) (by decide +kernel)) (by decide +kernel), g_tb (List.mem_of_getElem? (i := 374) (by decide +kernel)) (by decide +kernel), g_tb (List.mem_of_getElem? (i := 375) (by decide +kernel)) (by decide +kernel), g_tb (List.mem_of_getElem? (i := 37) (by decide +kernel)) (by decide +kernel), g_tb (List.mem_of_getElem? (i := 376) (by decide +kernel)) (by decide +kernel), ⟨rfl, by decide, by decide, by decide +kernel⟩, by decide⟩
theorem qs_X4_79 : g_site RX4 RX4 79 yX4_seatOf cX4_seatOf 3 (some .int) 1 := ⟨g_tb (List.mem_of_getElem? (i := 436) (by decide +kernel)) (by decide +kernel), g_tb (List.mem_of_getElem? (i := 438) (by decide +kernel)) (by decide +kernel), g_tb (List.mem_of_getElem? (i := 17) (by decide +kernel)) (by decide +kernel), g_tb (List.mem_of_getElem? (i := 37) (by decide +kernel)) (by decide +kernel), g_tb (List.mem_of_getElem? (i := 439) (by decide +kernel)) (by decide +kernel), ⟨rfl, by decide, by decide, by decide +kernel⟩, by decide⟩
theorem qs_X4_88 : g_site RX4 RX4 88 yX4_isNode cX4_isNode 2 (some .boolean) 1 := ⟨g_tb (List.mem_of_getElem? (i := 353) (by decide +kernel)) (by decide +kernel), g_tb (List.mem_of_getElem? (i := 354) (by decide +kernel)) (by decide +kernel), g_tb (List.mem_of_getElem? (i := 355) (by decide +kernel)) (by decide +kernel), g_tb (List.mem_of_getElem? (i := 37) (by decide +kernel)) (by decide +kernel), g_tb (List.mem_of_getElem? (i := 356) (by decide +kernel)) (by decide +kernel), ⟨rfl, by decide, by decide, by decide +kernel⟩, by decide⟩
theorem qs_X4_91 : g_site RX4 RX4 91 yX4_nodeOfCode cX4_nodeOfCode 2 (some .int) 1 := ⟨g_tb (List.mem_of_getElem? (i := 357) (by decide +kernel)) (by decide +kernel), g_tb (List.mem_of_getElem? (i := 358) (by decide +kernel)) (by decide +kernel), g_tb (List.mem_of_getElem? (i := 359) (by decide +kernel)) (by decide +kernel), g_tb (List.mem_of_getElem? (i := 37) (by decide +kernel)) (by decide +kernel), g_tb (List.mem_of_getElem? (i := 360) (by decide +kernel)) (by decide +kernel), ⟨rfl, by decide, by decide, by decide +kernel⟩, by decide⟩
theorem qs_X4_94 : g_site RX4 RX4 94 yX4_variableAt cX4_variableAt 2 (some .int) 1 := ⟨g_tb (List.mem_of_getElem? (i := 361) (by decide +kernel)) (by decide +kernel), g_tb (List.mem_of_getElem? (i := 363) (by decide +kernel)) (by decide +kernel), g_tb (List.mem_of_getElem? (i := 9) (by decide +kernel)) (by decide +kernel), g_tb (List.mem_of_getElem? (i := 37) (by decide +kernel)) (by decide +kernel), g_tb (List.mem_of_getElem? (i := 364) (by decide +kernel)) (by decide +kernel), ⟨rfl, by decide, by decide, by decide +kernel⟩, by decide⟩
theorem gu_2 : ∀ w ∈ wsX20, w ∈ gtb := by decide +kernel
theorem dX4_clear_0 : decode cX4_clear 0 = .ok (.aload_n 0, 1) := by decide +kernel
theorem dX4_clear_1 : decode cX4_clear 1 = .ok (.iconst 0, 1) := by decide +kernel
theorem dX4_clear_2 : decode cX4_clear 2 = .ok (.putfield 36, 3) := by decide +kernel
theorem dX4_clear_5 : decode cX4_clear 5 = .ok (.aload_n 0, 1) := by decide +kernel
theorem dX4_clear_6 : decode cX4_clear 6 = .ok (.iconst 0, 1) := by decide +kernel
theorem dX4_clear_7 : decode cX4_clear 7 = .ok (.iconst (-1), 1) := by decide +kernel
theorem dX4_clear_8 : decode cX4_clear 8 = .ok (.iconst (-1), 1) := by decide +kernel
theorem dX4_clear_9 : decode cX4_clear 9 = .ok (.invokevirtual 40, 3) := by decide +kernel
theorem dX4_clear_12 : decode cX4_clear 12 = .ok (.pop, 1) := by decide +kernel
theorem dX4_clear_13 : decode cX4_clear 13 = .ok (.aload_n 0, 1) := by decide +kernel
theorem dX4_clear_14 : decode cX4_clear 14 = .ok (.iconst 1, 1) := by decide +kernel
theorem dX4_clear_15 : decode cX4_clear 15 = .ok (.iconst (-1), 1) := by decide +kernel
theorem dX4_clear_16 : decode cX4_clear 16 = .ok (.iconst (-1), 1) := by decide +kernel
theorem dX4_clear_17 : decode cX4_clear 17 = .ok (.invokevirtual 40, 3) := by decide +kernel
theorem dX4_clear_20 : decode cX4_clear 20 = .ok (.pop, 1) := by decide +kernel
theorem dX4_clear_21 : decode cX4_clear 21 = .ok (.return_, 1) := by decide +kernel
theorem dX4_variableAt_0 : decode cX4_variableAt 0 = .ok (.iload_n 1, 1) := by decide +kernel
theorem dX4_variableAt_1 : decode cX4_variableAt 1 = .ok (.ifCond .lt 9, 3) := by decide +kernel
theorem dX4_variableAt_4 : decode cX4_variableAt 4 = .ok (.iload_n 1, 1) := by decide +kernel
theorem dX4_variableAt_5 : decode cX4_variableAt 5 = .ok (.bipush 60, 2) := by decide +kernel
theorem dX4_variableAt_7 : decode cX4_variableAt 7 = .ok (.if_icmp .lt 5, 3) := by decide +kernel
theorem dX4_variableAt_10 : decode cX4_variableAt 10 = .ok (.iconst 0, 1) := by decide +kernel
theorem dX4_variableAt_11 : decode cX4_variableAt 11 = .ok (.ireturn, 1) := by decide +kernel
theorem dX4_variableAt_12 : decode cX4_variableAt 12 = .ok (.aload_n 0, 1) := by decide +kernel
theorem dX4_variableAt_13 : decode cX4_variableAt 13 = .ok (.getfield 33, 3) := by decide +kernel
theorem dX4_variableAt_16 : decode cX4_variableAt 16 = .ok (.iload_n 1, 1) := by decide +kernel
theorem dX4_variableAt_17 : decode cX4_variableAt 17 = .ok (.iaload, 1) := by decide +kernel
theorem dX4_variableAt_18 : decode cX4_variableAt 18 = .ok (.iconst (-1), 1) := by decide +kernel
theorem dX4_variableAt_19 : decode cX4_variableAt 19 = .ok (.if_icmp .ne 16, 3) := by decide +kernel
theorem dX4_variableAt_22 : decode cX4_variableAt 22 = .ok (.aload_n 0, 1) := by decide +kernel
theorem dX4_variableAt_23 : decode cX4_variableAt 23 = .ok (.getfield 33, 3) := by decide +kernel
theorem dX4_variableAt_26 : decode cX4_variableAt 26 = .ok (.iload_n 1, 1) := by decide +kernel
theorem dX4_variableAt_27 : decode cX4_variableAt 27 = .ok (.aload_n 0, 1) := by decide +kernel
theorem dX4_variableAt_28 : decode cX4_variableAt 28 = .ok (.iconst 4, 1) := by decide +kernel
theorem dX4_variableAt_29 : decode cX4_variableAt 29 = .ok (.iconst (-1), 1) := by decide +kernel
theorem dX4_variableAt_30 : decode cX4_variableAt 30 = .ok (.iconst (-1), 1) := by decide +kernel
theorem dX4_variableAt_31 : decode cX4_variableAt 31 = .ok (.invokevirtual 40, 3) := by decide +kernel
theorem dX4_variableAt_34 : decode cX4_variableAt 34 = .ok (.iastore, 1) := by decide +kernel
theorem dX4_variableAt_35 : decode cX4_variableAt 35 = .ok (.aload_n 0, 1) := by decide +kernel
theorem dX4_variableAt_36 : decode cX4_variableAt 36 = .ok (.getfield 33, 3) := by decide +kernel
theorem dX4_variableAt_39 : decode cX4_variableAt 39 = .ok (.iload_n 1, 1) := by decide +kernel
theorem dX4_variableAt_40 : decode cX4_variableAt 40 = .ok (.iaload, 1) := by decide +kernel
theorem dX4_variableAt_41 : decode cX4_variableAt 41 = .ok (.ireturn, 1) := by decide +kernel
theorem dX4_seatOf_0 : decode cX4_seatOf 0 = .ok (.iconst 0, 1) := by decide +kernel
theorem dX4_seatOf_1 : decode cX4_seatOf 1 = .ok (.istore_n 2, 1) := by decide +kernel
theorem dX4_seatOf_2 : decode cX4_seatOf 2 = .ok (.iload_n 2, 1) := by decide +kernel
theorem dX4_seatOf_3 : decode cX4_seatOf 3 = .ok (.aload_n 0, 1) := by decide +kernel
theorem dX4_seatOf_4 : decode cX4_seatOf 4 = .ok (.getfield 70, 3) := by decide +kernel
theorem dX4_seatOf_7 : decode cX4_seatOf 7 = .ok (.if_icmp .ge 27, 3) := by decide +kernel
theorem dX4_seatOf_10 : decode cX4_seatOf 10 = .ok (.iload_n 2, 1) := by decide +kernel
theorem dX4_seatOf_11 : decode cX4_seatOf 11 = .ok (.bipush 60, 2) := by decide +kernel
theorem dX4_seatOf_13 : decode cX4_seatOf 13 = .ok (.if_icmp .ge 21, 3) := by decide +kernel
theorem dX4_seatOf_16 : decode cX4_seatOf 16 = .ok (.aload_n 0, 1) := by decide +kernel
theorem dX4_seatOf_17 : decode cX4_seatOf 17 = .ok (.getfield 33, 3) := by decide +kernel
theorem dX4_seatOf_20 : decode cX4_seatOf 20 = .ok (.iload_n 2, 1) := by decide +kernel
theorem dX4_seatOf_21 : decode cX4_seatOf 21 = .ok (.iaload, 1) := by decide +kernel
theorem dX4_seatOf_22 : decode cX4_seatOf 22 = .ok (.iload_n 1, 1) := by decide +kernel
theorem dX4_seatOf_23 : decode cX4_seatOf 23 = .ok (.if_icmp .ne 5, 3) := by decide +kernel
theorem dX4_seatOf_26 : decode cX4_seatOf 26 = .ok (.iload_n 2, 1) := by decide +kernel
theorem dX4_seatOf_27 : decode cX4_seatOf 27 = .ok (.ireturn, 1) := by decide +kernel
theorem dX4_seatOf_28 : decode cX4_seatOf 28 = .ok (.iinc 2 1, 3) := by decide +kernel
theorem dX4_seatOf_31 : decode cX4_seatOf 31 = .ok (.goto (-29), 3) := by decide +kernel
theorem dX4_seatOf_34 : decode cX4_seatOf 34 = .ok (.aload_n 0, 1) := by decide +kernel
theorem dX4_seatOf_35 : decode cX4_seatOf 35 = .ok (.getfield 70, 3) := by decide +kernel
theorem dX4_seatOf_38 : decode cX4_seatOf 38 = .ok (.ifCond .lt 32, 3) := by decide +kernel
theorem dX4_seatOf_41 : decode cX4_seatOf 41 = .ok (.aload_n 0, 1) := by decide +kernel
theorem dX4_seatOf_42 : decode cX4_seatOf 42 = .ok (.getfield 70, 3) := by decide +kernel
theorem dX4_seatOf_45 : decode cX4_seatOf 45 = .ok (.bipush 60, 2) := by decide +kernel
theorem dX4_seatOf_47 : decode cX4_seatOf 47 = .ok (.if_icmp .ge 23, 3) := by decide +kernel
theorem dX4_seatOf_50 : decode cX4_seatOf 50 = .ok (.aload_n 0, 1) := by decide +kernel
theorem dX4_seatOf_51 : decode cX4_seatOf 51 = .ok (.getfield 33, 3) := by decide +kernel
theorem dX4_seatOf_54 : decode cX4_seatOf 54 = .ok (.aload_n 0, 1) := by decide +kernel
theorem dX4_seatOf_55 : decode cX4_seatOf 55 = .ok (.getfield 70, 3) := by decide +kernel
theorem dX4_seatOf_58 : decode cX4_seatOf 58 = .ok (.iload_n 1, 1) := by decide +kernel
theorem dX4_seatOf_59 : decode cX4_seatOf 59 = .ok (.iastore, 1) := by decide +kernel
theorem dX4_seatOf_60 : decode cX4_seatOf 60 = .ok (.aload_n 0, 1) := by decide +kernel
theorem dX4_seatOf_61 : decode cX4_seatOf 61 = .ok (.dup, 1) := by decide +kernel
theorem dX4_seatOf_62 : decode cX4_seatOf 62 = .ok (.getfield 70, 3) := by decide +kernel
theorem dX4_seatOf_65 : decode cX4_seatOf 65 = .ok (.iconst 1, 1) := by decide +kernel
theorem dX4_seatOf_66 : decode cX4_seatOf 66 = .ok (.iadd, 1) := by decide +kernel
theorem dX4_seatOf_67 : decode cX4_seatOf 67 = .ok (.putfield 70, 3) := by decide +kernel
theorem dX4_seatOf_70 : decode cX4_seatOf 70 = .ok (.aload_n 0, 1) := by decide +kernel
theorem dX4_seatOf_71 : decode cX4_seatOf 71 = .ok (.getfield 70, 3) := by decide +kernel
theorem dX4_seatOf_74 : decode cX4_seatOf 74 = .ok (.iconst 1, 1) := by decide +kernel
theorem dX4_seatOf_75 : decode cX4_seatOf 75 = .ok (.isub, 1) := by decide +kernel
theorem dX4_seatOf_76 : decode cX4_seatOf 76 = .ok (.ireturn, 1) := by decide +kernel
theorem dX4_codeOf_0 : decode cX4_codeOf 0 = .ok (.iload_n 1, 1) := by decide +kernel
theorem dX4_codeOf_1 : decode cX4_codeOf 1 = .ok (.ifCond .lt 10, 3) := by decide +kernel
theorem dX4_codeOf_4 : decode cX4_codeOf 4 = .ok (.iload_n 1, 1) := by decide +kernel
theorem dX4_codeOf_5 : decode cX4_codeOf 5 = .ok (.sipush 2600, 3) := by decide +kernel
theorem dX4_codeOf_8 : decode cX4_codeOf 8 = .ok (.if_icmp .lt 5, 3) := by decide +kernel
theorem dX4_codeOf_11 : decode cX4_codeOf 11 = .ok (.iconst 0, 1) := by decide +kernel
theorem dX4_codeOf_12 : decode cX4_codeOf 12 = .ok (.ireturn, 1) := by decide +kernel
theorem dX4_codeOf_13 : decode cX4_codeOf 13 = .ok (.aload_n 0, 1) := by decide +kernel
theorem dX4_codeOf_14 : decode cX4_codeOf 14 = .ok (.getfield 11, 3) := by decide +kernel
theorem dX4_codeOf_17 : decode cX4_codeOf 17 = .ok (.iload_n 1, 1) := by decide +kernel
theorem dX4_codeOf_18 : decode cX4_codeOf 18 = .ok (.iaload, 1) := by decide +kernel
theorem dX4_codeOf_19 : decode cX4_codeOf 19 = .ok (.iconst 4, 1) := by decide +kernel
theorem dX4_codeOf_20 : decode cX4_codeOf 20 = .ok (.if_icmp .eq 10, 3) := by decide +kernel
theorem dX4_codeOf_23 : decode cX4_codeOf 23 = .ok (.aload_n 0, 1) := by decide +kernel
theorem dX4_codeOf_24 : decode cX4_codeOf 24 = .ok (.getfield 11, 3) := by decide +kernel
theorem dX4_codeOf_27 : decode cX4_codeOf 27 = .ok (.iload_n 1, 1) := by decide +kernel
theorem dX4_codeOf_28 : decode cX4_codeOf 28 = .ok (.iaload, 1) := by decide +kernel
theorem dX4_codeOf_29 : decode cX4_codeOf 29 = .ok (.ireturn, 1) := by decide +kernel
theorem dX4_codeOf_30 : decode cX4_codeOf 30 = .ok (.aload_n 0, 1) := by decide +kernel
theorem dX4_codeOf_31 : decode cX4_codeOf 31 = .ok (.getfield 21, 3) := by decide +kernel
theorem dX4_codeOf_34 : decode cX4_codeOf 34 = .ok (.iload_n 1, 1) := by decide +kernel
theorem dX4_codeOf_35 : decode cX4_codeOf 35 = .ok (.iaload, 1) := by decide +kernel
theorem dX4_codeOf_36 : decode cX4_codeOf 36 = .ok (.aload_n 0, 1) := by decide +kernel
theorem dX4_codeOf_37 : decode cX4_codeOf 37 = .ok (.getfield 44, 3) := by decide +kernel
theorem dX4_codeOf_40 : decode cX4_codeOf 40 = .ok (.if_icmp .ne 11, 3) := by decide +kernel
theorem dX4_codeOf_43 : decode cX4_codeOf 43 = .ok (.aload_n 0, 1) := by decide +kernel
theorem dX4_codeOf_44 : decode cX4_codeOf 44 = .ok (.iload_n 1, 1) := by decide +kernel
theorem dX4_codeOf_45 : decode cX4_codeOf 45 = .ok (.invokevirtual 76, 3) := by decide +kernel
theorem dX4_codeOf_48 : decode cX4_codeOf 48 = .ok (.goto 11, 3) := by decide +kernel
theorem dX4_codeOf_51 : decode cX4_codeOf 51 = .ok (.bipush 10, 2) := by decide +kernel
theorem dX4_codeOf_53 : decode cX4_codeOf 53 = .ok (.aload_n 0, 1) := by decide +kernel
theorem dX4_codeOf_54 : decode cX4_codeOf 54 = .ok (.iload_n 1, 1) := by decide +kernel
theorem dX4_codeOf_55 : decode cX4_codeOf 55 = .ok (.invokevirtual 79, 3) := by decide +kernel
theorem dX4_codeOf_58 : decode cX4_codeOf 58 = .ok (.iadd, 1) := by decide +kernel
theorem dX4_codeOf_59 : decode cX4_codeOf 59 = .ok (.ireturn, 1) := by decide +kernel
theorem dX4_write_0 : decode cX4_write 0 = .ok (.iconst 0, 1) := by decide +kernel
theorem dX4_write_1 : decode cX4_write 1 = .ok (.istore_n 3, 1) := by decide +kernel
theorem dX4_write_2 : decode cX4_write 2 = .ok (.iconst 1, 1) := by decide +kernel
theorem dX4_write_3 : decode cX4_write 3 = .ok (.istore 4, 2) := by decide +kernel
theorem dX4_write_5 : decode cX4_write 5 = .ok (.aload_n 0, 1) := by decide +kernel
theorem dX4_write_6 : decode cX4_write 6 = .ok (.iconst 0, 1) := by decide +kernel
theorem dX4_write_7 : decode cX4_write 7 = .ok (.putfield 70, 3) := by decide +kernel
theorem dX4_write_10 : decode cX4_write 10 = .ok (.aload_n 0, 1) := by decide +kernel
theorem dX4_write_11 : decode cX4_write 11 = .ok (.getfield 24, 3) := by decide +kernel
theorem dX4_write_14 : decode cX4_write 14 = .ok (.iconst 0, 1) := by decide +kernel
theorem dX4_write_15 : decode cX4_write 15 = .ok (.iload_n 1, 1) := by decide +kernel
theorem dX4_write_16 : decode cX4_write 16 = .ok (.iastore, 1) := by decide +kernel
theorem dX4_write_17 : decode cX4_write 17 = .ok (.iload 4, 2) := by decide +kernel
theorem dX4_write_19 : decode cX4_write 19 = .ok (.ifCond .le 100, 3) := by decide +kernel
theorem dX4_write_22 : decode cX4_write 22 = .ok (.iload_n 3, 1) := by decide +kernel
theorem dX4_write_23 : decode cX4_write 23 = .ok (.iload 4, 2) := by decide +kernel
theorem dX4_write_25 : decode cX4_write 25 = .ok (.iadd, 1) := by decide +kernel
theorem dX4_write_26 : decode cX4_write 26 = .ok (.aload_n 2, 1) := by decide +kernel
theorem dX4_write_27 : decode cX4_write 27 = .ok (.arraylength, 1) := by decide +kernel
theorem dX4_write_28 : decode cX4_write 28 = .ok (.if_icmp .gt 91, 3) := by decide +kernel
theorem dX4_write_31 : decode cX4_write 31 = .ok (.iload 4, 2) := by decide +kernel
theorem dX4_write_33 : decode cX4_write 33 = .ok (.iconst 2, 1) := by decide +kernel
theorem dX4_write_34 : decode cX4_write 34 = .ok (.iadd, 1) := by decide +kernel
theorem dX4_write_35 : decode cX4_write 35 = .ok (.sipush 5208, 3) := by decide +kernel
theorem dX4_write_38 : decode cX4_write 38 = .ok (.if_icmp .gt 81, 3) := by decide +kernel
theorem dX4_write_41 : decode cX4_write 41 = .ok (.iinc 4 (-1), 3) := by decide +kernel
theorem dX4_write_44 : decode cX4_write 44 = .ok (.aload_n 0, 1) := by decide +kernel
theorem dX4_write_45 : decode cX4_write 45 = .ok (.aload_n 0, 1) := by decide +kernel
theorem dX4_write_46 : decode cX4_write 46 = .ok (.getfield 24, 3) := by decide +kernel
theorem dX4_write_49 : decode cX4_write 49 = .ok (.iload 4, 2) := by decide +kernel
theorem dX4_write_51 : decode cX4_write 51 = .ok (.iaload, 1) := by decide +kernel
theorem dX4_write_52 : decode cX4_write 52 = .ok (.invokevirtual 48, 3) := by decide +kernel
theorem dX4_write_55 : decode cX4_write 55 = .ok (.istore 5, 2) := by decide +kernel
theorem dX4_write_57 : decode cX4_write 57 = .ok (.aload_n 2, 1) := by decide +kernel
theorem dX4_write_58 : decode cX4_write 58 = .ok (.iload_n 3, 1) := by decide +kernel
theorem dX4_write_59 : decode cX4_write 59 = .ok (.aload_n 0, 1) := by decide +kernel
theorem dX4_write_60 : decode cX4_write 60 = .ok (.iload 5, 2) := by decide +kernel
theorem dX4_write_62 : decode cX4_write 62 = .ok (.invokevirtual 73, 3) := by decide +kernel
theorem dX4_write_65 : decode cX4_write 65 = .ok (.iastore, 1) := by decide +kernel
theorem dX4_write_66 : decode cX4_write 66 = .ok (.iinc 3 1, 3) := by decide +kernel
theorem dX4_write_69 : decode cX4_write 69 = .ok (.aload_n 0, 1) := by decide +kernel
theorem dX4_write_70 : decode cX4_write 70 = .ok (.aload_n 0, 1) := by decide +kernel
theorem dX4_write_71 : decode cX4_write 71 = .ok (.getfield 11, 3) := by decide +kernel
theorem dX4_write_74 : decode cX4_write 74 = .ok (.iload 5, 2) := by decide +kernel
theorem dX4_write_76 : decode cX4_write 76 = .ok (.iaload, 1) := by decide +kernel
theorem dX4_write_77 : decode cX4_write 77 = .ok (.invokevirtual 52, 3) := by decide +kernel
theorem dX4_write_80 : decode cX4_write 80 = .ok (.ifCond .eq 36, 3) := by decide +kernel
theorem dX4_write_83 : decode cX4_write 83 = .ok (.aload_n 0, 1) := by decide +kernel
theorem dX4_write_84 : decode cX4_write 84 = .ok (.getfield 24, 3) := by decide +kernel
theorem dX4_write_87 : decode cX4_write 87 = .ok (.iload 4, 2) := by decide +kernel
theorem dX4_write_89 : decode cX4_write 89 = .ok (.aload_n 0, 1) := by decide +kernel
theorem dX4_write_90 : decode cX4_write 90 = .ok (.getfield 18, 3) := by decide +kernel
theorem dX4_write_93 : decode cX4_write 93 = .ok (.iload 5, 2) := by decide +kernel
theorem dX4_write_95 : decode cX4_write 95 = .ok (.iaload, 1) := by decide +kernel
theorem dX4_write_96 : decode cX4_write 96 = .ok (.iastore, 1) := by decide +kernel
theorem dX4_write_97 : decode cX4_write 97 = .ok (.aload_n 0, 1) := by decide +kernel
theorem dX4_write_98 : decode cX4_write 98 = .ok (.getfield 24, 3) := by decide +kernel
theorem dX4_write_101 : decode cX4_write 101 = .ok (.iload 4, 2) := by decide +kernel
theorem dX4_write_103 : decode cX4_write 103 = .ok (.iconst 1, 1) := by decide +kernel
theorem dX4_write_104 : decode cX4_write 104 = .ok (.iadd, 1) := by decide +kernel
theorem dX4_write_105 : decode cX4_write 105 = .ok (.aload_n 0, 1) := by decide +kernel
theorem dX4_write_106 : decode cX4_write 106 = .ok (.getfield 15, 3) := by decide +kernel
theorem dX4_write_109 : decode cX4_write 109 = .ok (.iload 5, 2) := by decide +kernel
theorem dX4_write_111 : decode cX4_write 111 = .ok (.iaload, 1) := by decide +kernel
theorem dX4_write_112 : decode cX4_write 112 = .ok (.iastore, 1) := by decide +kernel
theorem dX4_write_113 : decode cX4_write 113 = .ok (.iinc 4 2, 3) := by decide +kernel
theorem dX4_write_116 : decode cX4_write 116 = .ok (.goto (-99), 3) := by decide +kernel
theorem dX4_write_119 : decode cX4_write 119 = .ok (.iload 4, 2) := by decide +kernel
theorem dX4_write_121 : decode cX4_write 121 = .ok (.ifCond .le 10, 3) := by decide +kernel
theorem dX4_write_124 : decode cX4_write 124 = .ok (.aload_n 2, 1) := by decide +kernel
theorem dX4_write_125 : decode cX4_write 125 = .ok (.arraylength, 1) := by decide +kernel
theorem dX4_write_126 : decode cX4_write 126 = .ok (.iconst 1, 1) := by decide +kernel
theorem dX4_write_127 : decode cX4_write 127 = .ok (.iadd, 1) := by decide +kernel
theorem dX4_write_128 : decode cX4_write 128 = .ok (.goto 4, 3) := by decide +kernel
theorem dX4_write_131 : decode cX4_write 131 = .ok (.iload_n 3, 1) := by decide +kernel
theorem dX4_write_132 : decode cX4_write 132 = .ok (.ireturn, 1) := by decide +kernel
theorem dX4_build_0 : decode cX4_build 0 = .ok (.iconst 0, 1) := by decide +kernel
theorem dX4_build_1 : decode cX4_build 1 = .ok (.istore_n 3, 1) := by decide +kernel
theorem dX4_build_2 : decode cX4_build 2 = .ok (.iload_n 3, 1) := by decide +kernel
theorem dX4_build_3 : decode cX4_build 3 = .ok (.bipush 60, 2) := by decide +kernel
theorem dX4_build_5 : decode cX4_build 5 = .ok (.if_icmp .ge 16, 3) := by decide +kernel
theorem dX4_build_8 : decode cX4_build 8 = .ok (.aload_n 0, 1) := by decide +kernel
theorem dX4_build_9 : decode cX4_build 9 = .ok (.getfield 33, 3) := by decide +kernel
theorem dX4_build_12 : decode cX4_build 12 = .ok (.iload_n 3, 1) := by decide +kernel
theorem dX4_build_13 : decode cX4_build 13 = .ok (.iconst (-1), 1) := by decide +kernel
theorem dX4_build_14 : decode cX4_build 14 = .ok (.iastore, 1) := by decide +kernel
theorem dX4_build_15 : decode cX4_build 15 = .ok (.iinc 3 1, 3) := by decide +kernel
theorem dX4_build_18 : decode cX4_build 18 = .ok (.goto (-16), 3) := by decide +kernel
theorem dX4_build_21 : decode cX4_build 21 = .ok (.iconst 0, 1) := by decide +kernel
theorem dX4_build_22 : decode cX4_build 22 = .ok (.istore_n 3, 1) := by decide +kernel
theorem dX4_build_23 : decode cX4_build 23 = .ok (.iload_n 2, 1) := by decide +kernel
theorem dX4_build_24 : decode cX4_build 24 = .ok (.aload_n 1, 1) := by decide +kernel
theorem dX4_build_25 : decode cX4_build 25 = .ok (.arraylength, 1) := by decide +kernel
theorem dX4_build_26 : decode cX4_build 26 = .ok (.invokestatic 82, 3) := by decide +kernel
theorem dX4_build_29 : decode cX4_build 29 = .ok (.iconst 1, 1) := by decide +kernel
theorem dX4_build_30 : decode cX4_build 30 = .ok (.isub, 1) := by decide +kernel
theorem dX4_build_31 : decode cX4_build 31 = .ok (.istore 4, 2) := by decide +kernel
theorem dX4_build_33 : decode cX4_build 33 = .ok (.iload 4, 2) := by decide +kernel
theorem dX4_build_35 : decode cX4_build 35 = .ok (.ifCond .lt 121, 3) := by decide +kernel
theorem dX4_build_38 : decode cX4_build 38 = .ok (.aload_n 1, 1) := by decide +kernel
theorem dX4_build_39 : decode cX4_build 39 = .ok (.iload 4, 2) := by decide +kernel
theorem dX4_build_41 : decode cX4_build 41 = .ok (.iaload, 1) := by decide +kernel
theorem dX4_build_42 : decode cX4_build 42 = .ok (.istore 5, 2) := by decide +kernel
theorem dX4_build_44 : decode cX4_build 44 = .ok (.iload 5, 2) := by decide +kernel
theorem dX4_build_46 : decode cX4_build 46 = .ok (.istore 6, 2) := by decide +kernel
theorem dX4_build_48 : decode cX4_build 48 = .ok (.aload_n 0, 1) := by decide +kernel
theorem dX4_build_49 : decode cX4_build 49 = .ok (.iload 5, 2) := by decide +kernel
theorem dX4_build_51 : decode cX4_build 51 = .ok (.invokevirtual 52, 3) := by decide +kernel
theorem dX4_build_54 : decode cX4_build 54 = .ok (.ifCond .eq 40, 3) := by decide +kernel
theorem dX4_build_57 : decode cX4_build 57 = .ok (.iload_n 3, 1) := by decide +kernel
theorem dX4_build_58 : decode cX4_build 58 = .ok (.iconst 2, 1) := by decide +kernel
theorem dX4_build_59 : decode cX4_build 59 = .ok (.if_icmp .ge 5, 3) := by decide +kernel
theorem dX4_build_62 : decode cX4_build 62 = .ok (.iconst 0, 1) := by decide +kernel
theorem dX4_build_63 : decode cX4_build 63 = .ok (.ireturn, 1) := by decide +kernel
theorem dX4_build_64 : decode cX4_build 64 = .ok (.aload_n 0, 1) := by decide +kernel
theorem dX4_build_65 : decode cX4_build 65 = .ok (.iload 5, 2) := by decide +kernel
theorem dX4_build_67 : decode cX4_build 67 = .ok (.aload_n 0, 1) := by decide +kernel
theorem dX4_build_68 : decode cX4_build 68 = .ok (.getfield 24, 3) := by decide +kernel
theorem dX4_build_71 : decode cX4_build 71 = .ok (.iload_n 3, 1) := by decide +kernel
theorem dX4_build_72 : decode cX4_build 72 = .ok (.iconst 1, 1) := by decide +kernel
theorem dX4_build_73 : decode cX4_build 73 = .ok (.isub, 1) := by decide +kernel
theorem dX4_build_74 : decode cX4_build 74 = .ok (.iaload, 1) := by decide +kernel
theorem dX4_build_75 : decode cX4_build 75 = .ok (.aload_n 0, 1) := by decide +kernel
theorem dX4_build_76 : decode cX4_build 76 = .ok (.getfield 24, 3) := by decide +kernel
theorem dX4_build_79 : decode cX4_build 79 = .ok (.iload_n 3, 1) := by decide +kernel
theorem dX4_build_80 : decode cX4_build 80 = .ok (.iconst 2, 1) := by decide +kernel
theorem dX4_build_81 : decode cX4_build 81 = .ok (.isub, 1) := by decide +kernel
theorem dX4_build_82 : decode cX4_build 82 = .ok (.iaload, 1) := by decide +kernel
theorem dX4_build_83 : decode cX4_build 83 = .ok (.invokevirtual 40, 3) := by decide +kernel
theorem dX4_build_86 : decode cX4_build 86 = .ok (.istore 6, 2) := by decide +kernel
theorem dX4_build_88 : decode cX4_build 88 = .ok (.iinc 3 (-2), 3) := by decide +kernel
theorem dX4_build_91 : decode cX4_build 91 = .ok (.goto 41, 3) := by decide +kernel
theorem dX4_build_94 : decode cX4_build 94 = .ok (.aload_n 0, 1) := by decide +kernel
theorem dX4_build_95 : decode cX4_build 95 = .ok (.iload 5, 2) := by decide +kernel
theorem dX4_build_97 : decode cX4_build 97 = .ok (.invokevirtual 88, 3) := by decide +kernel
theorem dX4_build_100 : decode cX4_build 100 = .ok (.ifCond .eq 14, 3) := by decide +kernel
theorem dX4_build_103 : decode cX4_build 103 = .ok (.aload_n 0, 1) := by decide +kernel
theorem dX4_build_104 : decode cX4_build 104 = .ok (.iload 5, 2) := by decide +kernel
theorem dX4_build_106 : decode cX4_build 106 = .ok (.invokevirtual 91, 3) := by decide +kernel
theorem dX4_build_109 : decode cX4_build 109 = .ok (.istore 6, 2) := by decide +kernel
theorem dX4_build_111 : decode cX4_build 111 = .ok (.goto 21, 3) := by decide +kernel
theorem dX4_build_114 : decode cX4_build 114 = .ok (.iload 5, 2) := by decide +kernel
theorem dX4_build_116 : decode cX4_build 116 = .ok (.bipush 10, 2) := by decide +kernel
theorem dX4_build_118 : decode cX4_build 118 = .ok (.if_icmp .lt 14, 3) := by decide +kernel
theorem dX4_build_121 : decode cX4_build 121 = .ok (.aload_n 0, 1) := by decide +kernel
theorem dX4_build_122 : decode cX4_build 122 = .ok (.iload 5, 2) := by decide +kernel
theorem dX4_build_124 : decode cX4_build 124 = .ok (.bipush 10, 2) := by decide +kernel
theorem dX4_build_126 : decode cX4_build 126 = .ok (.isub, 1) := by decide +kernel
theorem dX4_build_127 : decode cX4_build 127 = .ok (.invokevirtual 94, 3) := by decide +kernel
theorem dX4_build_130 : decode cX4_build 130 = .ok (.istore 6, 2) := by decide +kernel
theorem dX4_build_132 : decode cX4_build 132 = .ok (.iload_n 3, 1) := by decide +kernel
theorem dX4_build_133 : decode cX4_build 133 = .ok (.sipush 5208, 3) := by decide +kernel
theorem dX4_build_136 : decode cX4_build 136 = .ok (.if_icmp .ge 14, 3) := by decide +kernel
theorem dX4_build_139 : decode cX4_build 139 = .ok (.aload_n 0, 1) := by decide +kernel
theorem dX4_build_140 : decode cX4_build 140 = .ok (.getfield 24, 3) := by decide +kernel
theorem dX4_build_143 : decode cX4_build 143 = .ok (.iload_n 3, 1) := by decide +kernel
theorem dX4_build_144 : decode cX4_build 144 = .ok (.iload 6, 2) := by decide +kernel
theorem dX4_build_146 : decode cX4_build 146 = .ok (.iastore, 1) := by decide +kernel
theorem dX4_build_147 : decode cX4_build 147 = .ok (.iinc 3 1, 3) := by decide +kernel
theorem dX4_build_150 : decode cX4_build 150 = .ok (.iinc 4 (-1), 3) := by decide +kernel
theorem dX4_build_153 : decode cX4_build 153 = .ok (.goto (-120), 3) := by decide +kernel
theorem dX4_build_156 : decode cX4_build 156 = .ok (.iload_n 3, 1) := by decide +kernel
theorem dX4_build_157 : decode cX4_build 157 = .ok (.ifCond .le 14, 3) := by decide +kernel
theorem dX4_build_160 : decode cX4_build 160 = .ok (.aload_n 0, 1) := by decide +kernel
theorem dX4_build_161 : decode cX4_build 161 = .ok (.getfield 24, 3) := by decide +kernel
theorem dX4_build_164 : decode cX4_build 164 = .ok (.iload_n 3, 1) := by decide +kernel
theorem dX4_build_165 : decode cX4_build 165 = .ok (.iconst 1, 1) := by decide +kernel
theorem dX4_build_166 : decode cX4_build 166 = .ok (.isub, 1) := by decide +kernel
theorem dX4_build_167 : decode cX4_build 167 = .ok (.iaload, 1) := by decide +kernel
theorem dX4_build_168 : decode cX4_build 168 = .ok (.goto 4, 3) := by decide +kernel
theorem dX4_build_171 : decode cX4_build 171 = .ok (.iconst 0, 1) := by decide +kernel
theorem dX4_build_172 : decode cX4_build 172 = .ok (.ireturn, 1) := by decide +kernel
theorem dX2_made_0 : decode cX2_made 0 = .ok (.aload_n 0, 1) := by decide +kernel
theorem dX2_made_1 : decode cX2_made 1 = .ok (.getfield 16, 3) := by decide +kernel
theorem dX2_made_4 : decode cX2_made 4 = .ok (.ireturn, 1) := by decide +kernel
theorem dX2_fact_0 : decode cX2_fact 0 = .ok (.iload_n 1, 1) := by decide +kernel
theorem dX2_fact_1 : decode cX2_fact 1 = .ok (.ifCond .lt 21, 3) := by decide +kernel
theorem dX2_fact_4 : decode cX2_fact 4 = .ok (.iload_n 1, 1) := by decide +kernel
theorem dX2_fact_5 : decode cX2_fact 5 = .ok (.aload_n 0, 1) := by decide +kernel
theorem dX2_fact_6 : decode cX2_fact 6 = .ok (.getfield 16, 3) := by decide +kernel
theorem dX2_fact_9 : decode cX2_fact 9 = .ok (.if_icmp .ge 13, 3) := by decide +kernel
theorem dX2_fact_12 : decode cX2_fact 12 = .ok (.iload_n 1, 1) := by decide +kernel
theorem dX2_fact_13 : decode cX2_fact 13 = .ok (.bipush 40, 2) := by decide +kernel
theorem dX2_fact_15 : decode cX2_fact 15 = .ok (.if_icmp .ge 7, 3) := by decide +kernel
theorem dX2_fact_18 : decode cX2_fact 18 = .ok (.iconst 1, 1) := by decide +kernel
theorem dX2_fact_19 : decode cX2_fact 19 = .ok (.goto 4, 3) := by decide +kernel
theorem dX2_fact_22 : decode cX2_fact 22 = .ok (.iconst 0, 1) := by decide +kernel
theorem dX2_fact_23 : decode cX2_fact 23 = .ok (.istore_n 3, 1) := by decide +kernel
theorem dX2_fact_24 : decode cX2_fact 24 = .ok (.iload_n 3, 1) := by decide +kernel
theorem dX2_fact_25 : decode cX2_fact 25 = .ok (.ifCond .eq 24, 3) := by decide +kernel
theorem dX2_fact_28 : decode cX2_fact 28 = .ok (.iload_n 2, 1) := by decide +kernel
theorem dX2_fact_29 : decode cX2_fact 29 = .ok (.ifCond .lt 20, 3) := by decide +kernel
theorem dX2_fact_32 : decode cX2_fact 32 = .ok (.iload_n 2, 1) := by decide +kernel
theorem dX2_fact_33 : decode cX2_fact 33 = .ok (.bipush 7, 2) := by decide +kernel
theorem dX2_fact_35 : decode cX2_fact 35 = .ok (.if_icmp .ge 14, 3) := by decide +kernel
theorem dX2_fact_38 : decode cX2_fact 38 = .ok (.aload_n 0, 1) := by decide +kernel
theorem dX2_fact_39 : decode cX2_fact 39 = .ok (.getfield 11, 3) := by decide +kernel
theorem dX2_fact_42 : decode cX2_fact 42 = .ok (.iload_n 1, 1) := by decide +kernel
theorem dX2_fact_43 : decode cX2_fact 43 = .ok (.aaload, 1) := by decide +kernel
theorem dX2_fact_44 : decode cX2_fact 44 = .ok (.iload_n 2, 1) := by decide +kernel
theorem dX2_fact_45 : decode cX2_fact 45 = .ok (.iaload, 1) := by decide +kernel
theorem dX2_fact_46 : decode cX2_fact 46 = .ok (.goto 4, 3) := by decide +kernel
theorem dX2_fact_49 : decode cX2_fact 49 = .ok (.iconst (-1), 1) := by decide +kernel
theorem dX2_fact_50 : decode cX2_fact 50 = .ok (.ireturn, 1) := by decide +kernel
theorem dX2_sizeOf_0 : decode cX2_sizeOf 0 = .ok (.iload_n 1, 1) := by decide +kernel
theorem dX2_sizeOf_1 : decode cX2_sizeOf 1 = .ok (.iconst (-1), 1) := by decide +kernel
theorem dX2_sizeOf_2 : decode cX2_sizeOf 2 = .ok (.if_icmp .ne 7, 3) := by decide +kernel
theorem dX2_sizeOf_5 : decode cX2_sizeOf 5 = .ok (.iconst 0, 1) := by decide +kernel
theorem dX2_sizeOf_6 : decode cX2_sizeOf 6 = .ok (.goto 9, 3) := by decide +kernel
theorem dX2_sizeOf_9 : decode cX2_sizeOf 9 = .ok (.aload_n 0, 1) := by decide +kernel
theorem dX2_sizeOf_10 : decode cX2_sizeOf 10 = .ok (.iload_n 1, 1) := by decide +kernel
theorem dX2_sizeOf_11 : decode cX2_sizeOf 11 = .ok (.iconst 5, 1) := by decide +kernel
theorem dX2_sizeOf_12 : decode cX2_sizeOf 12 = .ok (.invokevirtual 24, 3) := by decide +kernel
theorem dX2_sizeOf_15 : decode cX2_sizeOf 15 = .ok (.ireturn, 1) := by decide +kernel
theorem dX2_sizeOver_0 : decode cX2_sizeOver 0 = .ok (.iconst 1, 1) := by decide +kernel
theorem dX2_sizeOver_1 : decode cX2_sizeOver 1 = .ok (.aload_n 0, 1) := by decide +kernel
theorem dX2_sizeOver_2 : decode cX2_sizeOver 2 = .ok (.iload_n 1, 1) := by decide +kernel
theorem dX2_sizeOver_3 : decode cX2_sizeOver 3 = .ok (.invokevirtual 20, 3) := by decide +kernel
theorem dX2_sizeOver_6 : decode cX2_sizeOver 6 = .ok (.iadd, 1) := by decide +kernel
theorem dX2_sizeOver_7 : decode cX2_sizeOver 7 = .ok (.aload_n 0, 1) := by decide +kernel
theorem dX2_sizeOver_8 : decode cX2_sizeOver 8 = .ok (.iload_n 2, 1) := by decide +kernel
theorem dX2_sizeOver_9 : decode cX2_sizeOver 9 = .ok (.invokevirtual 20, 3) := by decide +kernel
theorem dX2_sizeOver_12 : decode cX2_sizeOver 12 = .ok (.iadd, 1) := by decide +kernel
theorem dX2_sizeOver_13 : decode cX2_sizeOver 13 = .ok (.aload_n 0, 1) := by decide +kernel
theorem dX2_sizeOver_14 : decode cX2_sizeOver 14 = .ok (.iload_n 3, 1) := by decide +kernel
theorem dX2_sizeOver_15 : decode cX2_sizeOver 15 = .ok (.invokevirtual 20, 3) := by decide +kernel
theorem dX2_sizeOver_18 : decode cX2_sizeOver 18 = .ok (.iadd, 1) := by decide +kernel
theorem dX2_sizeOver_19 : decode cX2_sizeOver 19 = .ok (.ireturn, 1) := by decide +kernel
theorem dX2_depthOf_0 : decode cX2_depthOf 0 = .ok (.iload_n 1, 1) := by decide +kernel
theorem dX2_depthOf_1 : decode cX2_depthOf 1 = .ok (.iconst (-1), 1) := by decide +kernel
theorem dX2_depthOf_2 : decode cX2_depthOf 2 = .ok (.if_icmp .ne 7, 3) := by decide +kernel
theorem dX2_depthOf_5 : decode cX2_depthOf 5 = .ok (.iconst 0, 1) := by decide +kernel
theorem dX2_depthOf_6 : decode cX2_depthOf 6 = .ok (.goto 10, 3) := by decide +kernel
theorem dX2_depthOf_9 : decode cX2_depthOf 9 = .ok (.aload_n 0, 1) := by decide +kernel
theorem dX2_depthOf_10 : decode cX2_depthOf 10 = .ok (.iload_n 1, 1) := by decide +kernel
theorem dX2_depthOf_11 : decode cX2_depthOf 11 = .ok (.bipush 6, 2) := by decide +kernel
theorem dX2_depthOf_13 : decode cX2_depthOf 13 = .ok (.invokevirtual 24, 3) := by decide +kernel
theorem dX2_depthOf_16 : decode cX2_depthOf 16 = .ok (.ireturn, 1) := by decide +kernel
theorem dX2_append_0 : decode cX2_append 0 = .ok (.aload_n 0, 1) := by decide +kernel
theorem dX2_append_1 : decode cX2_append 1 = .ok (.getfield 16, 3) := by decide +kernel
theorem dX2_append_4 : decode cX2_append 4 = .ok (.ifCond .lt 12, 3) := by decide +kernel
theorem dX2_append_7 : decode cX2_append 7 = .ok (.aload_n 0, 1) := by decide +kernel
theorem dX2_append_8 : decode cX2_append 8 = .ok (.getfield 16, 3) := by decide +kernel
theorem dX2_append_11 : decode cX2_append 11 = .ok (.bipush 40, 2) := by decide +kernel
theorem dX2_append_13 : decode cX2_append 13 = .ok (.if_icmp .lt 5, 3) := by decide +kernel
theorem dX2_append_16 : decode cX2_append 16 = .ok (.iconst (-1), 1) := by decide +kernel
theorem dX2_append_17 : decode cX2_append 17 = .ok (.ireturn, 1) := by decide +kernel
theorem dX2_append_18 : decode cX2_append 18 = .ok (.aload_n 0, 1) := by decide +kernel
theorem dX2_append_19 : decode cX2_append 19 = .ok (.getfield 11, 3) := by decide +kernel
theorem dX2_append_22 : decode cX2_append 22 = .ok (.aload_n 0, 1) := by decide +kernel
theorem dX2_append_23 : decode cX2_append 23 = .ok (.getfield 16, 3) := by decide +kernel
theorem dX2_append_26 : decode cX2_append 26 = .ok (.aaload, 1) := by decide +kernel
theorem dX2_append_27 : decode cX2_append 27 = .ok (.astore 6, 2) := by decide +kernel
theorem dX2_append_29 : decode cX2_append 29 = .ok (.aload 6, 2) := by decide +kernel
theorem dX2_append_31 : decode cX2_append 31 = .ok (.iconst 0, 1) := by decide +kernel
theorem dX2_append_32 : decode cX2_append 32 = .ok (.iload_n 1, 1) := by decide +kernel
theorem dX2_append_33 : decode cX2_append 33 = .ok (.iastore, 1) := by decide +kernel
theorem dX2_append_34 : decode cX2_append 34 = .ok (.aload 6, 2) := by decide +kernel
theorem dX2_append_36 : decode cX2_append 36 = .ok (.iconst 1, 1) := by decide +kernel
theorem dX2_append_37 : decode cX2_append 37 = .ok (.iload_n 3, 1) := by decide +kernel
theorem dX2_append_38 : decode cX2_append 38 = .ok (.iastore, 1) := by decide +kernel
theorem dX2_append_39 : decode cX2_append 39 = .ok (.aload 6, 2) := by decide +kernel
theorem dX2_append_41 : decode cX2_append 41 = .ok (.iconst 2, 1) := by decide +kernel
theorem dX2_append_42 : decode cX2_append 42 = .ok (.iload 4, 2) := by decide +kernel
theorem dX2_append_44 : decode cX2_append 44 = .ok (.iastore, 1) := by decide +kernel
theorem dX2_append_45 : decode cX2_append 45 = .ok (.aload 6, 2) := by decide +kernel
theorem dX2_append_47 : decode cX2_append 47 = .ok (.iconst 3, 1) := by decide +kernel
theorem dX2_append_48 : decode cX2_append 48 = .ok (.iload 5, 2) := by decide +kernel
theorem dX2_append_50 : decode cX2_append 50 = .ok (.iastore, 1) := by decide +kernel
theorem dX2_append_51 : decode cX2_append 51 = .ok (.aload 6, 2) := by decide +kernel
theorem dX2_append_53 : decode cX2_append 53 = .ok (.iconst 4, 1) := by decide +kernel
theorem dX2_append_54 : decode cX2_append 54 = .ok (.iload_n 2, 1) := by decide +kernel
theorem dX2_append_55 : decode cX2_append 55 = .ok (.iastore, 1) := by decide +kernel
theorem dX2_append_56 : decode cX2_append 56 = .ok (.aload 6, 2) := by decide +kernel
theorem dX2_append_58 : decode cX2_append 58 = .ok (.iconst 5, 1) := by decide +kernel
theorem dX2_append_59 : decode cX2_append 59 = .ok (.aload_n 0, 1) := by decide +kernel
theorem dX2_append_60 : decode cX2_append 60 = .ok (.iload_n 3, 1) := by decide +kernel
theorem dX2_append_61 : decode cX2_append 61 = .ok (.iload 4, 2) := by decide +kernel
theorem dX2_append_63 : decode cX2_append 63 = .ok (.iload 5, 2) := by decide +kernel
theorem dX2_append_65 : decode cX2_append 65 = .ok (.invokevirtual 28, 3) := by decide +kernel
theorem dX2_append_68 : decode cX2_append 68 = .ok (.iastore, 1) := by decide +kernel
theorem dX2_append_69 : decode cX2_append 69 = .ok (.aload 6, 2) := by decide +kernel
theorem dX2_append_71 : decode cX2_append 71 = .ok (.bipush 6, 2) := by decide +kernel
theorem dX2_append_73 : decode cX2_append 73 = .ok (.iconst 1, 1) := by decide +kernel
theorem dX2_append_74 : decode cX2_append 74 = .ok (.aload_n 0, 1) := by decide +kernel
theorem dX2_append_75 : decode cX2_append 75 = .ok (.iload_n 3, 1) := by decide +kernel
theorem dX2_append_76 : decode cX2_append 76 = .ok (.invokevirtual 32, 3) := by decide +kernel
theorem dX2_append_79 : decode cX2_append 79 = .ok (.aload_n 0, 1) := by decide +kernel
theorem dX2_append_80 : decode cX2_append 80 = .ok (.iload 4, 2) := by decide +kernel
theorem dX2_append_82 : decode cX2_append 82 = .ok (.invokevirtual 32, 3) := by decide +kernel
theorem dX2_append_85 : decode cX2_append 85 = .ok (.aload_n 0, 1) := by decide +kernel
theorem dX2_append_86 : decode cX2_append 86 = .ok (.iload 5, 2) := by decide +kernel
theorem dX2_append_88 : decode cX2_append 88 = .ok (.invokevirtual 32, 3) := by decide +kernel
theorem dX2_append_91 : decode cX2_append 91 = .ok (.invokestatic 35, 3) := by decide +kernel
theorem dX2_append_94 : decode cX2_append 94 = .ok (.invokestatic 35, 3) := by decide +kernel
theorem dX2_append_97 : decode cX2_append 97 = .ok (.iadd, 1) := by decide +kernel
theorem dX2_append_98 : decode cX2_append 98 = .ok (.iastore, 1) := by decide +kernel
theorem dX2_append_99 : decode cX2_append 99 = .ok (.aload_n 0, 1) := by decide +kernel
theorem dX2_append_100 : decode cX2_append 100 = .ok (.dup, 1) := by decide +kernel
theorem dX2_append_101 : decode cX2_append 101 = .ok (.getfield 16, 3) := by decide +kernel
theorem dX2_append_104 : decode cX2_append 104 = .ok (.iconst 1, 1) := by decide +kernel
theorem dX2_append_105 : decode cX2_append 105 = .ok (.iadd, 1) := by decide +kernel
theorem dX2_append_106 : decode cX2_append 106 = .ok (.putfield 16, 3) := by decide +kernel
theorem dX2_append_109 : decode cX2_append 109 = .ok (.aload_n 0, 1) := by decide +kernel
theorem dX2_append_110 : decode cX2_append 110 = .ok (.getfield 16, 3) := by decide +kernel
theorem dX2_append_113 : decode cX2_append 113 = .ok (.iconst 1, 1) := by decide +kernel
theorem dX2_append_114 : decode cX2_append 114 = .ok (.isub, 1) := by decide +kernel
theorem dX2_append_115 : decode cX2_append 115 = .ok (.ireturn, 1) := by decide +kernel
theorem dX2_dropLast_0 : decode cX2_dropLast 0 = .ok (.aload_n 0, 1) := by decide +kernel
theorem dX2_dropLast_1 : decode cX2_dropLast 1 = .ok (.getfield 16, 3) := by decide +kernel
theorem dX2_dropLast_4 : decode cX2_dropLast 4 = .ok (.ifCond .le 13, 3) := by decide +kernel
theorem dX2_dropLast_7 : decode cX2_dropLast 7 = .ok (.aload_n 0, 1) := by decide +kernel
theorem dX2_dropLast_8 : decode cX2_dropLast 8 = .ok (.dup, 1) := by decide +kernel
theorem dX2_dropLast_9 : decode cX2_dropLast 9 = .ok (.getfield 16, 3) := by decide +kernel
theorem dX2_dropLast_12 : decode cX2_dropLast 12 = .ok (.iconst 1, 1) := by decide +kernel
theorem dX2_dropLast_13 : decode cX2_dropLast 13 = .ok (.isub, 1) := by decide +kernel
theorem dX2_dropLast_14 : decode cX2_dropLast 14 = .ok (.putfield 16, 3) := by decide +kernel
theorem dX2_dropLast_17 : decode cX2_dropLast 17 = .ok (.return_, 1) := by decide +kernel
section T42
variable {p : Program} {l : Launch} {e : Env} {R : Room} {s : State} {m : MethodId} {args : Array Value} {below : List Frame} {meth : Method} {c : Code} {D : va_G} {g : gT} {N : Nat} {ad ln : Nat → Nat}
def mX4_clear_b0 (A : gM) : Option (gM) :=
  g_let (g_up A 129 9 0) fun A1 =>
  (mX4_make A1 0 (-1) (-1)).bind fun q2 =>
  (mX4_make q2.1 1 (-1) (-1)).bind fun q3 =>
  some q3.1
def mX4_clear (A : gM) : Option (gM) := mX4_clear_b0 A
set_option maxHeartbeats 2000000 in
set_option maxRecDepth 20000 in
theorem wX4_clear_b0 (hN : 183 ≤ N) {A0 A' : gM} (C : gC p R s m args meth c cX4_clear RX4 1 D g (va_A (gw g ad ln A0 N) s.heap.size) 1) (hr : meth.sig.returnType = none)  {A : gM} (h : mX4_clear_b0 A = some A') : gJ p l e R s m args below meth c (gEv below D g N ad ln A0 A' args s) 1 D g (va_A (gw g ad ln A0 N) s.heap.size) N ad ln A [(0, gr 129)] 0 0 0 [] := by
  unfold mX4_clear_b0 at h
  refine g_aload_n C 0 dX4_clear_0 rfl ?_
  refine g_iconst (v := 0) C dX4_clear_1 (by decide) ?_
  obtain ⟨A1, eA1, h⟩ := g_lt h
  refine g_put C 129 9 tyX4 tyX4_ok nmX4 (by omega) rfl rfl gu_4 (by decide) qf_X4_36 rfl (by decide +kernel) (Nat.le_of_ble_eq_true rfl) rfl eA1 dX4_clear_2 ?_
  refine g_aload_n C 0 dX4_clear_5 rfl ?_
  refine g_iconst (v := 0) C dX4_clear_6 (by decide) ?_
  refine g_iconst (v := (-1)) C dX4_clear_7 (by decide) ?_
  refine g_iconst (v := (-1)) C dX4_clear_8 (by decide) ?_
  obtain ⟨q2, eq2, h⟩ := g_bd h
  refine g_calliV C 129 [gi 0, gi (-1), gi (-1)] (kX4_make hN eq2) qs_X4_40 (by omega) (by omega) rfl rfl rfl rfl (Nat.le_of_ble_eq_true rfl) ⟨Nat.zero_le _, Nat.zero_le _⟩ dX4_clear_9 ?_
  refine g_pop_i C dX4_clear_12 ?_
  refine g_aload_n C 0 dX4_clear_13 rfl ?_
  refine g_iconst (v := 1) C dX4_clear_14 (by decide) ?_
  refine g_iconst (v := (-1)) C dX4_clear_15 (by decide) ?_
  refine g_iconst (v := (-1)) C dX4_clear_16 (by decide) ?_
  obtain ⟨q3, eq3, h⟩ := g_bd h
  refine g_calliV C 129 [gi 1, gi (-1), gi (-1)] (kX4_make hN eq3) qs_X4_40 (by omega) (by omega) rfl rfl rfl rfl (Nat.le_of_ble_eq_true rfl) ⟨Nat.zero_le _, Nat.zero_le _⟩ dX4_clear_17 ?_
  refine g_pop_i C dX4_clear_20 ?_
  obtain rfl := Option.some.inj h
  exact g_retv C hr dX4_clear_21

set_option maxHeartbeats 2000000 in
set_option maxRecDepth 20000 in
theorem kX4_clear {l : Launch} {D : va_G} {g : gT} {N : Nat} {ad ln : Nat → Nat} (hN : 183 ≤ N) {A A' : gM} (h : mX4_clear A = some A') : gKv l yX4_clear cX4_clear 1 (none) (1) D g N ad ln A [gr 129] A' := by
  refine g_metv (by decide) (Nat.le_of_ble_eq_true rfl) ?_
  intro p e s m args below meth c C hr
  refine g_sub [0] rfl ?_
  exact wX4_clear_b0 hN C hr h
def mX4_variableAt_b10 (A : gM) : Option (gM × Int32) :=
  some (A, 0)
def mX4_variableAt_b35 (A : gM) (x1 : Int32) : Option (gM × Int32) :=
  if g_in x1 60 = true then
  some (A, (A 137 x1.toNatClampNeg))
  else none
def mX4_variableAt_b0 (A : gM) (x1 : Int32) : Option (gM × Int32) :=
  if x1 < 0 then
  mX4_variableAt_b10 A
  else
  if x1 < 60 then
  if g_in x1 60 = true then
  if (A 137 x1.toNatClampNeg) = (-1) then
  (mX4_make A 4 (-1) (-1)).bind fun q5 =>
  if g_in x1 60 = true then g_let (g_up q5.1 137 x1.toNatClampNeg q5.2) fun A7 =>
  mX4_variableAt_b35 A7 x1
  else none
  else
  mX4_variableAt_b35 A x1
  else none
  else
  mX4_variableAt_b10 A
def mX4_variableAt (A : gM) (x1 : Int32) : Option (gM × Int32) := mX4_variableAt_b0 A x1
set_option maxHeartbeats 2000000 in
set_option maxRecDepth 20000 in
theorem wX4_variableAt_b10 (hN : 183 ≤ N) {A0 A' : gM} {r : Int32} (C : gC p R s m args meth c cX4_variableAt RX4 2 D g (va_A (gw g ad ln A0 N) s.heap.size) 1) (hr : meth.sig.returnType = some .int)  {A : gM} (h : mX4_variableAt_b10 A = some (A', r)) : gJ p l e R s m args below meth c (gEi below D g N ad ln A0 A' r args s) 2 D g (va_A (gw g ad ln A0 N) s.heap.size) N ad ln A [] 0 0 10 [] := by
  unfold mX4_variableAt_b10 at h
  refine g_iconst (v := 0) C dX4_variableAt_10 (by decide) ?_
  obtain ⟨rfl, rfl⟩ := Prod.mk.inj (Option.some.inj h)
  exact g_reti C hr dX4_variableAt_11

set_option maxHeartbeats 2000000 in
set_option maxRecDepth 20000 in
theorem wX4_variableAt_b35 (hN : 183 ≤ N) {A0 A' : gM} {r : Int32} (C : gC p R s m args meth c cX4_variableAt RX4 2 D g (va_A (gw g ad ln A0 N) s.heap.size) 1) (hr : meth.sig.returnType = some .int)  {A : gM} {x1 : Int32} (h : mX4_variableAt_b35 A x1 = some (A', r)) : gJ p l e R s m args below meth c (gEi below D g N ad ln A0 A' r args s) 2 D g (va_A (gw g ad ln A0 N) s.heap.size) N ad ln A [(0, gr 129), (1, gi x1)] 0 0 35 [] := by
  unfold mX4_variableAt_b35 at h
  refine g_aload_n C 0 dX4_variableAt_35 rfl ?_
  refine g_get (v := gr 137) C 129 7 (by omega) rfl rfl gu_4 (by decide) qf_X4_33 rfl dX4_variableAt_36 ?_
  refine g_iload_n C 1 dX4_variableAt_39 rfl ?_
  obtain ⟨hg1, h⟩ := g_gd h
  refine g_iald C 137 (by omega) rfl rfl hg1 dX4_variableAt_40 ?_
  obtain ⟨rfl, rfl⟩ := Prod.mk.inj (Option.some.inj h)
  exact g_reti C hr dX4_variableAt_41

set_option maxHeartbeats 2000000 in
set_option maxRecDepth 20000 in
theorem wX4_variableAt_b0 (hN : 183 ≤ N) {A0 A' : gM} {r : Int32} (C : gC p R s m args meth c cX4_variableAt RX4 2 D g (va_A (gw g ad ln A0 N) s.heap.size) 1) (hr : meth.sig.returnType = some .int)  {A : gM} {x1 : Int32} (h : mX4_variableAt_b0 A x1 = some (A', r)) : gJ p l e R s m args below meth c (gEi below D g N ad ln A0 A' r args s) 2 D g (va_A (gw g ad ln A0 N) s.heap.size) N ad ln A [(0, gr 129), (1, gi x1)] 0 0 0 [] := by
  unfold mX4_variableAt_b0 at h
  refine g_iload_n C 1 dX4_variableAt_0 rfl ?_
  refine g_if_lt C dX4_variableAt_1 (tgt := 10) (by decide) (fun c1 => ?_) (fun c1 => ?_)
  · have h := g_tt c1 h
    refine g_sub [] rfl ?_
    exact wX4_variableAt_b10 hN C hr h
  · have h := g_ff c1 h
    refine g_iload_n C 1 dX4_variableAt_4 rfl ?_
    refine g_bipush (v := 60) C dX4_variableAt_5 (by decide) ?_
    refine g_icmp_lt C dX4_variableAt_7 (tgt := 12) (by decide) (fun c2 => ?_) (fun c2 => ?_)
    · have h := g_tt c2 h
      refine g_aload_n C 0 dX4_variableAt_12 rfl ?_
      refine g_get (v := gr 137) C 129 7 (by omega) rfl rfl gu_4 (by decide) qf_X4_33 rfl dX4_variableAt_13 ?_
      refine g_iload_n C 1 dX4_variableAt_16 rfl ?_
      obtain ⟨hg3, h⟩ := g_gd h
      refine g_iald C 137 (by omega) rfl rfl hg3 dX4_variableAt_17 ?_
      refine g_iconst (v := (-1)) C dX4_variableAt_18 (by decide) ?_
      refine g_icmp_ne C dX4_variableAt_19 (tgt := 35) (by decide) (fun c4 => ?_) (fun c4 => ?_)
      · have h := g_ff c4 h
        refine g_sub [0, 1] rfl ?_
        exact wX4_variableAt_b35 hN C hr h
      · have h := g_tt c4 h
        refine g_aload_n C 0 dX4_variableAt_22 rfl ?_
        refine g_get (v := gr 137) C 129 7 (by omega) rfl rfl gu_4 (by decide) qf_X4_33 rfl dX4_variableAt_23 ?_
        refine g_iload_n C 1 dX4_variableAt_26 rfl ?_
        refine g_aload_n C 0 dX4_variableAt_27 rfl ?_
        refine g_iconst (v := 4) C dX4_variableAt_28 (by decide) ?_
        refine g_iconst (v := (-1)) C dX4_variableAt_29 (by decide) ?_
        refine g_iconst (v := (-1)) C dX4_variableAt_30 (by decide) ?_
        obtain ⟨q5, eq5, h⟩ := g_bd h
        refine g_calliV C 129 [gi 4, gi (-1), gi (-1)] (kX4_make hN eq5) qs_X4_40 (by omega) (by omega) rfl rfl rfl rfl (Nat.le_of_ble_eq_true rfl) ⟨Nat.zero_le _, Nat.zero_le _⟩ dX4_variableAt_31 ?_
        obtain ⟨hg6, h⟩ := g_gd h
        obtain ⟨A7, eA7, h⟩ := g_lt h
        refine g_iast C 137 (by omega) rfl rfl hg6 eA7 dX4_variableAt_34 ?_
        refine g_sub [0, 1] rfl ?_
        exact wX4_variableAt_b35 hN C hr h
    · have h := g_ff c2 h
      refine g_sub [] rfl ?_
      exact wX4_variableAt_b10 hN C hr h

set_option maxHeartbeats 2000000 in
set_option maxRecDepth 20000 in
theorem kX4_variableAt {l : Launch} {D : va_G} {g : gT} {N : Nat} {ad ln : Nat → Nat} (hN : 183 ≤ N) {A A' : gM} {x1 : Int32} {r : Int32} (h : mX4_variableAt A x1 = some (A', r)) : gKi l yX4_variableAt cX4_variableAt 2 (some .int) (1) D g N ad ln A [gr 129, gi x1] A' r := by
  refine g_meti (by decide) (Nat.le_of_ble_eq_true rfl) ?_
  intro p e s m args below meth c C hr
  refine g_sub [0, 1] rfl ?_
  exact wX4_variableAt_b0 hN C hr h
def mX4_seatOf_b70 (A : gM) : Option (gM × Int32) :=
  some (A, ((A 129 8) - 1))
def mX4_seatOf_b34 (A : gM) (x1 : Int32) : Option (gM × Int32) :=
  if (A 129 8) < 0 then
  mX4_seatOf_b70 A
  else
  if 60 ≤ (A 129 8) then
  mX4_seatOf_b70 A
  else
  if g_in (A 129 8) 60 = true then g_let (g_up A 137 (A 129 8).toNatClampNeg x1) fun A4 =>
  g_let (g_up A4 129 8 ((A4 129 8) + 1)) fun A5 =>
  mX4_seatOf_b70 A5
  else none
def mX4_seatOf_b2 (K2 : gM → Int32 → Int32 → Option (gM × Int32)) (A : gM) (x1 : Int32) (x2 : Int32) : Option (gM × Int32) :=
  if (A 129 8) ≤ x2 then
  mX4_seatOf_b34 A x1
  else
  if 60 ≤ x2 then
  mX4_seatOf_b34 A x1
  else
  if g_in x2 60 = true then
  if (A 137 x2.toNatClampNeg) = x1 then
  some (A, x2)
  else
  g_let (x2 + 1) fun v5 =>
  K2 A x1 v5
  else none
def mX4_seatOf_L2 : Nat → gM → Int32 → Int32 → Option (gM × Int32)
  | 0 => fun _ _ _ => none
  | f + 1 => mX4_seatOf_b2 (mX4_seatOf_L2 f)
def mX4_seatOf_b0 (A : gM) (x1 : Int32) : Option (gM × Int32) :=
  mX4_seatOf_L2 gF A x1 0
def mX4_seatOf (A : gM) (x1 : Int32) : Option (gM × Int32) := mX4_seatOf_b0 A x1
set_option maxHeartbeats 2000000 in
set_option maxRecDepth 20000 in
theorem wX4_seatOf_b70 (hN : 183 ≤ N) {A0 A' : gM} {r : Int32} (C : gC p R s m args meth c cX4_seatOf RX4 3 D g (va_A (gw g ad ln A0 N) s.heap.size) 0) (hr : meth.sig.returnType = some .int)  {A : gM} (h : mX4_seatOf_b70 A = some (A', r)) : gJ p l e R s m args below meth c (gEi below D g N ad ln A0 A' r args s) 3 D g (va_A (gw g ad ln A0 N) s.heap.size) N ad ln A [(0, gr 129)] 0 0 70 [] := by
  unfold mX4_seatOf_b70 at h
  refine g_aload_n C 0 dX4_seatOf_70 rfl ?_
  refine g_get (v := gi (A 129 8)) C 129 8 (by omega) rfl rfl gu_4 (by decide) qf_X4_70 rfl dX4_seatOf_71 ?_
  refine g_iconst (v := 1) C dX4_seatOf_74 (by decide) ?_
  refine g_isub C dX4_seatOf_75 ?_
  obtain ⟨rfl, rfl⟩ := Prod.mk.inj (Option.some.inj h)
  exact g_reti C hr dX4_seatOf_76

set_option maxHeartbeats 2000000 in
set_option maxRecDepth 20000 in
theorem wX4_seatOf_b34 (hN : 183 ≤ N) {A0 A' : gM} {r : Int32} (C : gC p R s m args meth c cX4_seatOf RX4 3 D g (va_A (gw g ad ln A0 N) s.heap.size) 0) (hr : meth.sig.returnType = some .int)  {A : gM} {x1 : Int32} (h : mX4_seatOf_b34 A x1 = some (A', r)) : gJ p l e R s m args below meth c (gEi below D g N ad ln A0 A' r args s) 3 D g (va_A (gw g ad ln A0 N) s.heap.size) N ad ln A [(0, gr 129), (1, gi x1)] 0 0 34 [] := by
  unfold mX4_seatOf_b34 at h
  refine g_aload_n C 0 dX4_seatOf_34 rfl ?_
  refine g_get (v := gi (A 129 8)) C 129 8 (by omega) rfl rfl gu_4 (by decide) qf_X4_70 rfl dX4_seatOf_35 ?_
  refine g_if_lt C dX4_seatOf_38 (tgt := 70) (by decide) (fun c1 => ?_) (fun c1 => ?_)
  · have h := g_tt c1 h
    refine g_sub [0] rfl ?_
    exact wX4_seatOf_b70 hN C hr h
  · have h := g_ff c1 h
    refine g_aload_n C 0 dX4_seatOf_41 rfl ?_
    refine g_get (v := gi (A 129 8)) C 129 8 (by omega) rfl rfl gu_4 (by decide) qf_X4_70 rfl dX4_seatOf_42 ?_
    refine g_bipush (v := 60) C dX4_seatOf_45 (by decide) ?_
    refine g_icmp_ge C dX4_seatOf_47 (tgt := 70) (by decide) (fun c2 => ?_) (fun c2 => ?_)
    · have h := g_tt c2 h
      refine g_sub [0] rfl ?_
      exact wX4_seatOf_b70 hN C hr h
    · have h := g_ff c2 h
      refine g_aload_n C 0 dX4_seatOf_50 rfl ?_
      refine g_get (v := gr 137) C 129 7 (by omega) rfl rfl gu_4 (by decide) qf_X4_33 rfl dX4_seatOf_51 ?_
      refine g_aload_n C 0 dX4_seatOf_54 rfl ?_
      refine g_get (v := gi (A 129 8)) C 129 8 (by omega) rfl rfl gu_4 (by decide) qf_X4_70 rfl dX4_seatOf_55 ?_
      refine g_iload_n C 1 dX4_seatOf_58 rfl ?_
      obtain ⟨hg3, h⟩ := g_gd h
      obtain ⟨A4, eA4, h⟩ := g_lt h
      refine g_iast C 137 (by omega) rfl rfl hg3 eA4 dX4_seatOf_59 ?_
      refine g_aload_n C 0 dX4_seatOf_60 rfl ?_
      refine g_dup_r C dX4_seatOf_61 ?_
      refine g_get (v := gi (A4 129 8)) C 129 8 (by omega) rfl rfl gu_4 (by decide) qf_X4_70 rfl dX4_seatOf_62 ?_
      refine g_iconst (v := 1) C dX4_seatOf_65 (by decide) ?_
      refine g_iadd C dX4_seatOf_66 ?_
      obtain ⟨A5, eA5, h⟩ := g_lt h
      refine g_put C 129 8 tyX4 tyX4_ok nmX4 (by omega) rfl rfl gu_4 (by decide) qf_X4_70 rfl (by decide +kernel) (Nat.le_of_ble_eq_true rfl) rfl eA5 dX4_seatOf_67 ?_
      refine g_sub [0] rfl ?_
      exact wX4_seatOf_b70 hN C hr h

set_option maxHeartbeats 2000000 in
set_option maxRecDepth 20000 in
theorem wX4_seatOf_b2 (hN : 183 ≤ N) {A0 A' : gM} {r : Int32} (C : gC p R s m args meth c cX4_seatOf RX4 3 D g (va_A (gw g ad ln A0 N) s.heap.size) 0) (hr : meth.sig.returnType = some .int) {K2 : gM → Int32 → Int32 → Option (gM × Int32)} (hK2 : ∀ {A : gM} {x1 : Int32} {x2 : Int32}, K2 A x1 x2 = some (A', r) → gJ p l e R s m args below meth c (gEi below D g N ad ln A0 A' r args s) 3 D g (va_A (gw g ad ln A0 N) s.heap.size) N ad ln A [(0, gr 129), (1, gi x1), (2, gi x2)] 0 0 2 []) {A : gM} {x1 : Int32} {x2 : Int32} (h : mX4_seatOf_b2 K2 A x1 x2 = some (A', r)) : gJ p l e R s m args below meth c (gEi below D g N ad ln A0 A' r args s) 3 D g (va_A (gw g ad ln A0 N) s.heap.size) N ad ln A [(0, gr 129), (1, gi x1), (2, gi x2)] 0 0 2 [] := by
  unfold mX4_seatOf_b2 at h
  refine g_iload_n C 2 dX4_seatOf_2 rfl ?_
  refine g_aload_n C 0 dX4_seatOf_3 rfl ?_
  refine g_get (v := gi (A 129 8)) C 129 8 (by omega) rfl rfl gu_4 (by decide) qf_X4_70 rfl dX4_seatOf_4 ?_
  refine g_icmp_ge C dX4_seatOf_7 (tgt := 34) (by decide) (fun c1 => ?_) (fun c1 => ?_)
  · have h := g_tt c1 h
    refine g_sub [0, 1] rfl ?_
    exact wX4_seatOf_b34 hN C hr h
  · have h := g_ff c1 h
    refine g_iload_n C 2 dX4_seatOf_10 rfl ?_
    refine g_bipush (v := 60) C dX4_seatOf_11 (by decide) ?_
    refine g_icmp_ge C dX4_seatOf_13 (tgt := 34) (by decide) (fun c2 => ?_) (fun c2 => ?_)
    · have h := g_tt c2 h
      refine g_sub [0, 1] rfl ?_
      exact wX4_seatOf_b34 hN C hr h
    · have h := g_ff c2 h
      refine g_aload_n C 0 dX4_seatOf_16 rfl ?_
      refine g_get (v := gr 137) C 129 7 (by omega) rfl rfl gu_4 (by decide) qf_X4_33 rfl dX4_seatOf_17 ?_
      refine g_iload_n C 2 dX4_seatOf_20 rfl ?_
      obtain ⟨hg3, h⟩ := g_gd h
      refine g_iald C 137 (by omega) rfl rfl hg3 dX4_seatOf_21 ?_
      refine g_iload_n C 1 dX4_seatOf_22 rfl ?_
      refine g_icmp_ne C dX4_seatOf_23 (tgt := 28) (by decide) (fun c4 => ?_) (fun c4 => ?_)
      · have h := g_ff c4 h
        obtain ⟨v5, ev5, h⟩ := g_lt h
        refine g_iinc C 2 dX4_seatOf_28 rfl ev5 (by decide) rfl ?_
        refine g_goto C dX4_seatOf_31 (tgt := 2) (by decide) ?_
        refine g_sub [1, 2, 0] rfl ?_
        exact hK2 h
      · have h := g_tt c4 h
        refine g_iload_n C 2 dX4_seatOf_26 rfl ?_
        obtain ⟨rfl, rfl⟩ := Prod.mk.inj (Option.some.inj h)
        exact g_reti C hr dX4_seatOf_27

set_option maxHeartbeats 2000000 in
set_option maxRecDepth 20000 in
theorem wX4_seatOf_L2 (hN : 183 ≤ N) {A0 A' : gM} {r : Int32} (C : gC p R s m args meth c cX4_seatOf RX4 3 D g (va_A (gw g ad ln A0 N) s.heap.size) 0) (hr : meth.sig.returnType = some .int)  : ∀ (f : Nat) {A : gM} {x1 : Int32} {x2 : Int32}, mX4_seatOf_L2 f A x1 x2 = some (A', r) → gJ p l e R s m args below meth c (gEi below D g N ad ln A0 A' r args s) 3 D g (va_A (gw g ad ln A0 N) s.heap.size) N ad ln A [(0, gr 129), (1, gi x1), (2, gi x2)] 0 0 2 []
  | 0, A, x1, x2, h => by cases h
  | f + 1, A, x1, x2, h => wX4_seatOf_b2 hN C hr (fun {A} {x1} {x2} h => wX4_seatOf_L2 hN C hr f h) h
set_option maxHeartbeats 2000000 in
set_option maxRecDepth 20000 in
theorem wX4_seatOf_b0 (hN : 183 ≤ N) {A0 A' : gM} {r : Int32} (C : gC p R s m args meth c cX4_seatOf RX4 3 D g (va_A (gw g ad ln A0 N) s.heap.size) 0) (hr : meth.sig.returnType = some .int)  {A : gM} {x1 : Int32} (h : mX4_seatOf_b0 A x1 = some (A', r)) : gJ p l e R s m args below meth c (gEi below D g N ad ln A0 A' r args s) 3 D g (va_A (gw g ad ln A0 N) s.heap.size) N ad ln A [(0, gr 129), (1, gi x1)] 0 0 0 [] := by
  unfold mX4_seatOf_b0 at h
  refine g_iconst (v := 0) C dX4_seatOf_0 (by decide) ?_
  refine g_istore_n C dX4_seatOf_1 (by decide) rfl ?_
  refine g_sub [1, 2, 0] rfl ?_
  exact wX4_seatOf_L2 hN C hr gF h

set_option maxHeartbeats 2000000 in
set_option maxRecDepth 20000 in
theorem kX4_seatOf {l : Launch} {D : va_G} {g : gT} {N : Nat} {ad ln : Nat → Nat} (hN : 183 ≤ N) {A A' : gM} {x1 : Int32} {r : Int32} (h : mX4_seatOf A x1 = some (A', r)) : gKi l yX4_seatOf cX4_seatOf 3 (some .int) (0) D g N ad ln A [gr 129, gi x1] A' r := by
  refine g_meti (by decide) (Nat.le_of_ble_eq_true rfl) ?_
  intro p e s m args below meth c C hr
  refine g_sub [0, 1] rfl ?_
  exact wX4_seatOf_b0 hN C hr h
def mX4_codeOf_b11 (A : gM) : Option (gM × Int32) :=
  some (A, 0)
def mX4_codeOf_b59 (A : gM) (s0 : Int32) : Option (gM × Int32) :=
  some (A, s0)
def mX4_codeOf_b0 (A : gM) (x1 : Int32) : Option (gM × Int32) :=
  if x1 < 0 then
  mX4_codeOf_b11 A
  else
  if x1 < 2600 then
  if g_in x1 2600 = true then
  if (A 130 x1.toNatClampNeg) = 4 then
  if g_in x1 2600 = true then
  if (A 133 x1.toNatClampNeg) = (A 129 10) then
  (mX4_codeOfNode A x1).bind fun q8 =>
  mX4_codeOf_b59 q8.1 q8.2
  else
  (mX4_seatOf A x1).bind fun q7 =>
  mX4_codeOf_b59 q7.1 (10 + q7.2)
  else none
  else
  if g_in x1 2600 = true then
  some (A, (A 130 x1.toNatClampNeg))
  else none
  else none
  else
  mX4_codeOf_b11 A
def mX4_codeOf (A : gM) (x1 : Int32) : Option (gM × Int32) := mX4_codeOf_b0 A x1
set_option maxHeartbeats 2000000 in
set_option maxRecDepth 20000 in
theorem wX4_codeOf_b11 (hN : 183 ≤ N) {A0 A' : gM} {r : Int32} (C : gC p R s m args meth c cX4_codeOf RX4 2 D g (va_A (gw g ad ln A0 N) s.heap.size) 1) (hr : meth.sig.returnType = some .int)  {A : gM} (h : mX4_codeOf_b11 A = some (A', r)) : gJ p l e R s m args below meth c (gEi below D g N ad ln A0 A' r args s) 2 D g (va_A (gw g ad ln A0 N) s.heap.size) N ad ln A [] 0 0 11 [] := by
  unfold mX4_codeOf_b11 at h
  refine g_iconst (v := 0) C dX4_codeOf_11 (by decide) ?_
  obtain ⟨rfl, rfl⟩ := Prod.mk.inj (Option.some.inj h)
  exact g_reti C hr dX4_codeOf_12

set_option maxHeartbeats 2000000 in
set_option maxRecDepth 20000 in
theorem wX4_codeOf_b59 (hN : 183 ≤ N) {A0 A' : gM} {r : Int32} (C : gC p R s m args meth c cX4_codeOf RX4 2 D g (va_A (gw g ad ln A0 N) s.heap.size) 1) (hr : meth.sig.returnType = some .int)  {A : gM} {s0 : Int32} (h : mX4_codeOf_b59 A s0 = some (A', r)) : gJ p l e R s m args below meth c (gEi below D g N ad ln A0 A' r args s) 2 D g (va_A (gw g ad ln A0 N) s.heap.size) N ad ln A [] 0 0 59 [gi s0] := by
  unfold mX4_codeOf_b59 at h
  obtain ⟨rfl, rfl⟩ := Prod.mk.inj (Option.some.inj h)
  exact g_reti C hr dX4_codeOf_59

set_option maxHeartbeats 2000000 in
set_option maxRecDepth 20000 in
theorem wX4_codeOf_b0 (hN : 183 ≤ N) {A0 A' : gM} {r : Int32} (C : gC p R s m args meth c cX4_codeOf RX4 2 D g (va_A (gw g ad ln A0 N) s.heap.size) 1) (hr : meth.sig.returnType = some .int)  {A : gM} {x1 : Int32} (h : mX4_codeOf_b0 A x1 = some (A', r)) : gJ p l e R s m args below meth c (gEi below D g N ad ln A0 A' r args s) 2 D g (va_A (gw g ad ln A0 N) s.heap.size) N ad ln A [(0, gr 129), (1, gi x1)] 0 0 0 [] := by
  unfold mX4_codeOf_b0 at h
  refine g_iload_n C 1 dX4_codeOf_0 rfl ?_
  refine g_if_lt C dX4_codeOf_1 (tgt := 11) (by decide) (fun c1 => ?_) (fun c1 => ?_)
  · have h := g_tt c1 h
    refine g_sub [] rfl ?_
    exact wX4_codeOf_b11 hN C hr h
  · have h := g_ff c1 h
    refine g_iload_n C 1 dX4_codeOf_4 rfl ?_
    refine g_sipush (v := 2600) C dX4_codeOf_5 (by decide) ?_
    refine g_icmp_lt C dX4_codeOf_8 (tgt := 13) (by decide) (fun c2 => ?_) (fun c2 => ?_)
    · have h := g_tt c2 h
      refine g_aload_n C 0 dX4_codeOf_13 rfl ?_
      refine g_get (v := gr 130) C 129 0 (by omega) rfl rfl gu_4 (by decide) qf_X4_11 rfl dX4_codeOf_14 ?_
      refine g_iload_n C 1 dX4_codeOf_17 rfl ?_
      obtain ⟨hg3, h⟩ := g_gd h
      refine g_iald C 130 (by omega) rfl rfl hg3 dX4_codeOf_18 ?_
      refine g_iconst (v := 4) C dX4_codeOf_19 (by decide) ?_
      refine g_icmp_eq C dX4_codeOf_20 (tgt := 30) (by decide) (fun c4 => ?_) (fun c4 => ?_)
      · have h := g_tt c4 h
        refine g_aload_n C 0 dX4_codeOf_30 rfl ?_
        refine g_get (v := gr 133) C 129 3 (by omega) rfl rfl gu_4 (by decide) qf_X4_21 rfl dX4_codeOf_31 ?_
        refine g_iload_n C 1 dX4_codeOf_34 rfl ?_
        obtain ⟨hg5, h⟩ := g_gd h
        refine g_iald C 133 (by omega) rfl rfl hg5 dX4_codeOf_35 ?_
        refine g_aload_n C 0 dX4_codeOf_36 rfl ?_
        refine g_get (v := gi (A 129 10)) C 129 10 (by omega) rfl rfl gu_4 (by decide) qf_X4_44 rfl dX4_codeOf_37 ?_
        refine g_icmp_ne C dX4_codeOf_40 (tgt := 51) (by decide) (fun c6 => ?_) (fun c6 => ?_)
        · have h := g_ff c6 h
          refine g_bipush (v := 10) C dX4_codeOf_51 (by decide) ?_
          refine g_aload_n C 0 dX4_codeOf_53 rfl ?_
          refine g_iload_n C 1 dX4_codeOf_54 rfl ?_
          obtain ⟨q7, eq7, h⟩ := g_bd h
          refine g_calliV C 129 [gi x1] (kX4_seatOf hN eq7) qs_X4_79 (by omega) (by omega) rfl rfl rfl rfl (Nat.le_of_ble_eq_true rfl) ⟨Nat.zero_le _, Nat.zero_le _⟩ dX4_codeOf_55 ?_
          refine g_iadd C dX4_codeOf_58 ?_
          refine g_sub [] rfl ?_
          exact wX4_codeOf_b59 hN C hr h
        · have h := g_tt c6 h
          refine g_aload_n C 0 dX4_codeOf_43 rfl ?_
          refine g_iload_n C 1 dX4_codeOf_44 rfl ?_
          obtain ⟨q8, eq8, h⟩ := g_bd h
          refine g_calliV C 129 [gi x1] (kX4_codeOfNode hN eq8) qs_X4_76 (by omega) (by omega) rfl rfl rfl rfl (Nat.le_of_ble_eq_true rfl) ⟨Nat.zero_le _, Nat.zero_le _⟩ dX4_codeOf_45 ?_
          refine g_goto C dX4_codeOf_48 (tgt := 59) (by decide) ?_
          refine g_sub [] rfl ?_
          exact wX4_codeOf_b59 hN C hr h
      · have h := g_ff c4 h
        refine g_aload_n C 0 dX4_codeOf_23 rfl ?_
        refine g_get (v := gr 130) C 129 0 (by omega) rfl rfl gu_4 (by decide) qf_X4_11 rfl dX4_codeOf_24 ?_
        refine g_iload_n C 1 dX4_codeOf_27 rfl ?_
        obtain ⟨hg9, h⟩ := g_gd h
        refine g_iald C 130 (by omega) rfl rfl hg9 dX4_codeOf_28 ?_
        obtain ⟨rfl, rfl⟩ := Prod.mk.inj (Option.some.inj h)
        exact g_reti C hr dX4_codeOf_29
    · have h := g_ff c2 h
      refine g_sub [] rfl ?_
      exact wX4_codeOf_b11 hN C hr h

set_option maxHeartbeats 2000000 in
set_option maxRecDepth 20000 in
theorem kX4_codeOf {l : Launch} {D : va_G} {g : gT} {N : Nat} {ad ln : Nat → Nat} (hN : 183 ≤ N) {A A' : gM} {x1 : Int32} {r : Int32} (h : mX4_codeOf A x1 = some (A', r)) : gKi l yX4_codeOf cX4_codeOf 2 (some .int) (1) D g N ad ln A [gr 129, gi x1] A' r := by
  refine g_meti (by decide) (Nat.le_of_ble_eq_true rfl) ?_
  intro p e s m args below meth c C hr
  refine g_sub [0, 1] rfl ?_
  exact wX4_codeOf_b0 hN C hr h
def mX4_write_b132 (A : gM) (s0 : Int32) : Option (gM × Int32) :=
  some (A, s0)
def mX4_write_b119 (A : gM) (x3 : Int32) (x4 : Int32) : Option (gM × Int32) :=
  if x4 ≤ 0 then
  mX4_write_b132 A x3
  else
  mX4_write_b132 A (60 + 1)
def mX4_write_b116 (K17 : gM → Int32 → Int32 → Option (gM × Int32)) (A : gM) (x3 : Int32) (x4 : Int32) : Option (gM × Int32) :=
  K17 A x3 x4
def mX4_write_b17 (K17 : gM → Int32 → Int32 → Option (gM × Int32)) (A : gM) (x3 : Int32) (x4 : Int32) : Option (gM × Int32) :=
  if x4 ≤ 0 then
  mX4_write_b119 A x3 x4
  else
  if 60 < (x3 + x4) then
  mX4_write_b119 A x3 x4
  else
  if 5208 < (x4 + 2) then
  mX4_write_b119 A x3 x4
  else
  g_let (x4 + (-1)) fun v4 =>
  if g_in v4 5208 = true then
  (mX4_resolve A (A 134 v4.toNatClampNeg)).bind fun q6 =>
  (mX4_codeOf q6.1 q6.2).bind fun q7 =>
  if g_in x3 60 = true then g_let (g_up q7.1 182 x3.toNatClampNeg q7.2) fun A9 =>
  g_let (x3 + 1) fun v10 =>
  if g_in q6.2 2600 = true then
  (mX4_isPair A9 (A9 130 q6.2.toNatClampNeg)).bind fun q12 =>
  if q12.2 = 0 then
  mX4_write_b116 K17 q12.1 v10 v4
  else
  if g_in q6.2 2600 = true then
  if g_in v4 5208 = true then g_let (g_up q12.1 134 v4.toNatClampNeg (q12.1 132 q6.2.toNatClampNeg)) fun A16 =>
  if g_in q6.2 2600 = true then
  if g_in (v4 + 1) 5208 = true then g_let (g_up A16 134 (v4 + 1).toNatClampNeg (A16 131 q6.2.toNatClampNeg)) fun A19 =>
  g_let (v4 + 2) fun v20 =>
  mX4_write_b116 K17 A19 v10 v20
  else none
  else none
  else none
  else none
  else none
  else none
  else none
def mX4_write_L17 : Nat → gM → Int32 → Int32 → Option (gM × Int32)
  | 0 => fun _ _ _ => none
  | f + 1 => mX4_write_b17 (mX4_write_L17 f)
def mX4_write_b0 (A : gM) (x1 : Int32) : Option (gM × Int32) :=
  g_let (g_up A 129 8 0) fun A1 =>
  if g_in 0 5208 = true then g_let (g_up A1 134 (0 : Int32).toNatClampNeg x1) fun A3 =>
  mX4_write_L17 gF A3 0 1
  else none
def mX4_write (A : gM) (x1 : Int32) : Option (gM × Int32) := mX4_write_b0 A x1
set_option maxHeartbeats 2000000 in
set_option maxRecDepth 20000 in
theorem wX4_write_b132 (hN : 183 ≤ N) {A0 A' : gM} {r : Int32} (C : gC p R s m args meth c cX4_write RX4 6 D g (va_A (gw g ad ln A0 N) s.heap.size) 2) (hr : meth.sig.returnType = some .int)  {A : gM} {s0 : Int32} (h : mX4_write_b132 A s0 = some (A', r)) : gJ p l e R s m args below meth c (gEi below D g N ad ln A0 A' r args s) 6 D g (va_A (gw g ad ln A0 N) s.heap.size) N ad ln A [] 0 0 132 [gi s0] := by
  unfold mX4_write_b132 at h
  obtain ⟨rfl, rfl⟩ := Prod.mk.inj (Option.some.inj h)
  exact g_reti C hr dX4_write_132

set_option maxHeartbeats 2000000 in
set_option maxRecDepth 20000 in
theorem wX4_write_b119 (hN : 183 ≤ N) {A0 A' : gM} {r : Int32} (C : gC p R s m args meth c cX4_write RX4 6 D g (va_A (gw g ad ln A0 N) s.heap.size) 2) (hr : meth.sig.returnType = some .int)  {A : gM} {x3 : Int32} {x4 : Int32} (h : mX4_write_b119 A x3 x4 = some (A', r)) : gJ p l e R s m args below meth c (gEi below D g N ad ln A0 A' r args s) 6 D g (va_A (gw g ad ln A0 N) s.heap.size) N ad ln A [(2, gr 182), (3, gi x3), (4, gi x4)] 0 0 119 [] := by
  unfold mX4_write_b119 at h
  refine g_iload C 2 dX4_write_119 rfl ?_
  refine g_if_le C dX4_write_121 (tgt := 131) (by decide) (fun c1 => ?_) (fun c1 => ?_)
  · have h := g_tt c1 h
    refine g_iload_n C 1 dX4_write_131 rfl ?_
    refine g_sub [] rfl ?_
    exact wX4_write_b132 hN C hr h
  · have h := g_ff c1 h
    refine g_aload_n C 0 dX4_write_124 rfl ?_
    refine g_alen (v := 60) C 182 (by omega) rfl rfl dX4_write_125 ?_
    refine g_iconst (v := 1) C dX4_write_126 (by decide) ?_
    refine g_iadd C dX4_write_127 ?_
    refine g_goto C dX4_write_128 (tgt := 132) (by decide) ?_
    refine g_sub [] rfl ?_
    exact wX4_write_b132 hN C hr h

set_option maxHeartbeats 2000000 in
set_option maxRecDepth 20000 in
theorem wX4_write_b116 (hN : 183 ≤ N) {A0 A' : gM} {r : Int32} (C : gC p R s m args meth c cX4_write RX4 6 D g (va_A (gw g ad ln A0 N) s.heap.size) 2) (hr : meth.sig.returnType = some .int) {K17 : gM → Int32 → Int32 → Option (gM × Int32)} (hK17 : ∀ {A : gM} {x3 : Int32} {x4 : Int32}, K17 A x3 x4 = some (A', r) → gJ p l e R s m args below meth c (gEi below D g N ad ln A0 A' r args s) 6 D g (va_A (gw g ad ln A0 N) s.heap.size) N ad ln A [(0, gr 129), (2, gr 182), (3, gi x3), (4, gi x4)] 0 0 17 []) {A : gM} {x3 : Int32} {x4 : Int32} (h : mX4_write_b116 K17 A x3 x4 = some (A', r)) : gJ p l e R s m args below meth c (gEi below D g N ad ln A0 A' r args s) 6 D g (va_A (gw g ad ln A0 N) s.heap.size) N ad ln A [(0, gr 129), (2, gr 182), (3, gi x3), (4, gi x4)] 0 0 116 [] := by
  unfold mX4_write_b116 at h
  refine g_goto C dX4_write_116 (tgt := 17) (by decide) ?_
  refine g_sub [0, 1, 2, 3] rfl ?_
  exact hK17 h

set_option maxHeartbeats 2000000 in
set_option maxRecDepth 20000 in
theorem wX4_write_b17 (hN : 183 ≤ N) {A0 A' : gM} {r : Int32} (C : gC p R s m args meth c cX4_write RX4 6 D g (va_A (gw g ad ln A0 N) s.heap.size) 2) (hr : meth.sig.returnType = some .int) {K17 : gM → Int32 → Int32 → Option (gM × Int32)} (hK17 : ∀ {A : gM} {x3 : Int32} {x4 : Int32}, K17 A x3 x4 = some (A', r) → gJ p l e R s m args below meth c (gEi below D g N ad ln A0 A' r args s) 6 D g (va_A (gw g ad ln A0 N) s.heap.size) N ad ln A [(0, gr 129), (2, gr 182), (3, gi x3), (4, gi x4)] 0 0 17 []) {A : gM} {x3 : Int32} {x4 : Int32} (h : mX4_write_b17 K17 A x3 x4 = some (A', r)) : gJ p l e R s m args below meth c (gEi below D g N ad ln A0 A' r args s) 6 D g (va_A (gw g ad ln A0 N) s.heap.size) N ad ln A [(0, gr 129), (2, gr 182), (3, gi x3), (4, gi x4)] 0 0 17 [] := by
  unfold mX4_write_b17 at h
  refine g_iload C 3 dX4_write_17 rfl ?_
  refine g_if_le C dX4_write_19 (tgt := 119) (by decide) (fun c1 => ?_) (fun c1 => ?_)
  · have h := g_tt c1 h
    refine g_sub [1, 2, 3] rfl ?_
    exact wX4_write_b119 hN C hr h
  · have h := g_ff c1 h
    refine g_iload_n C 2 dX4_write_22 rfl ?_
    refine g_iload C 3 dX4_write_23 rfl ?_
    refine g_iadd C dX4_write_25 ?_
    refine g_aload_n C 1 dX4_write_26 rfl ?_
    refine g_alen (v := 60) C 182 (by omega) rfl rfl dX4_write_27 ?_
    refine g_icmp_gt C dX4_write_28 (tgt := 119) (by decide) (fun c2 => ?_) (fun c2 => ?_)
    · have h := g_tt c2 h
      refine g_sub [1, 2, 3] rfl ?_
      exact wX4_write_b119 hN C hr h
    · have h := g_ff c2 h
      refine g_iload C 3 dX4_write_31 rfl ?_
      refine g_iconst (v := 2) C dX4_write_33 (by decide) ?_
      refine g_iadd C dX4_write_34 ?_
      refine g_sipush (v := 5208) C dX4_write_35 (by decide) ?_
      refine g_icmp_gt C dX4_write_38 (tgt := 119) (by decide) (fun c3 => ?_) (fun c3 => ?_)
      · have h := g_tt c3 h
        refine g_sub [1, 2, 3] rfl ?_
        exact wX4_write_b119 hN C hr h
      · have h := g_ff c3 h
        obtain ⟨v4, ev4, h⟩ := g_lt h
        refine g_iinc C 3 dX4_write_41 rfl ev4 (by decide) rfl ?_
        refine g_aload_n C 1 dX4_write_44 rfl ?_
        refine g_aload_n C 1 dX4_write_45 rfl ?_
        refine g_get (v := gr 134) C 129 4 (by omega) rfl rfl gu_4 (by decide) qf_X4_24 rfl dX4_write_46 ?_
        refine g_iload C 0 dX4_write_49 rfl ?_
        obtain ⟨hg5, h⟩ := g_gd h
        refine g_iald C 134 (by omega) rfl rfl hg5 dX4_write_51 ?_
        obtain ⟨q6, eq6, h⟩ := g_bd h
        refine g_calliV C 129 [gi (A 134 v4.toNatClampNeg)] (kX4_resolve hN eq6) qs_X4_48 (by omega) (by omega) rfl rfl rfl rfl (Nat.le_of_ble_eq_true rfl) ⟨Nat.zero_le _, Nat.zero_le _⟩ dX4_write_52 ?_
        refine g_istore C dX4_write_55 (by decide) rfl ?_
        refine g_aload_n C 3 dX4_write_57 rfl ?_
        refine g_iload_n C 4 dX4_write_58 rfl ?_
        refine g_aload_n C 2 dX4_write_59 rfl ?_
        refine g_iload C 0 dX4_write_60 rfl ?_
        obtain ⟨q7, eq7, h⟩ := g_bd h
        refine g_calliV C 129 [gi q6.2] (kX4_codeOf hN eq7) qs_X4_73 (by omega) (by omega) rfl rfl rfl rfl (Nat.le_of_ble_eq_true rfl) ⟨Nat.zero_le _, Nat.zero_le _⟩ dX4_write_62 ?_
        obtain ⟨hg8, h⟩ := g_gd h
        obtain ⟨A9, eA9, h⟩ := g_lt h
        refine g_iast C 182 (by omega) rfl rfl hg8 eA9 dX4_write_65 ?_
        obtain ⟨v10, ev10, h⟩ := g_lt h
        refine g_iinc C 4 dX4_write_66 rfl ev10 (by decide) rfl ?_
        refine g_aload_n C 3 dX4_write_69 rfl ?_
        refine g_aload_n C 3 dX4_write_70 rfl ?_
        refine g_get (v := gr 130) C 129 0 (by omega) rfl rfl gu_4 (by decide) qf_X4_11 rfl dX4_write_71 ?_
        refine g_iload C 1 dX4_write_74 rfl ?_
        obtain ⟨hg11, h⟩ := g_gd h
        refine g_iald C 130 (by omega) rfl rfl hg11 dX4_write_76 ?_
        obtain ⟨q12, eq12, h⟩ := g_bd h
        refine g_calliV C 129 [gi (A9 130 q6.2.toNatClampNeg)] (kX4_isPair hN eq12) qs_X4_52 (by omega) (by omega) rfl rfl rfl rfl (Nat.le_of_ble_eq_true rfl) ⟨Nat.zero_le _, Nat.zero_le _⟩ dX4_write_77 ?_
        refine g_if_eq C dX4_write_80 (tgt := 116) (by decide) (fun c13 => ?_) (fun c13 => ?_)
        · have h := g_tt c13 h
          refine g_sub [3, 4, 0, 2] rfl ?_
          exact wX4_write_b116 hN C hr hK17 h
        · have h := g_ff c13 h
          refine g_aload_n C 3 dX4_write_83 rfl ?_
          refine g_get (v := gr 134) C 129 4 (by omega) rfl rfl gu_4 (by decide) qf_X4_24 rfl dX4_write_84 ?_
          refine g_iload C 2 dX4_write_87 rfl ?_
          refine g_aload_n C 3 dX4_write_89 rfl ?_
          refine g_get (v := gr 132) C 129 2 (by omega) rfl rfl gu_4 (by decide) qf_X4_18 rfl dX4_write_90 ?_
          refine g_iload C 1 dX4_write_93 rfl ?_
          obtain ⟨hg14, h⟩ := g_gd h
          refine g_iald C 132 (by omega) rfl rfl hg14 dX4_write_95 ?_
          obtain ⟨hg15, h⟩ := g_gd h
          obtain ⟨A16, eA16, h⟩ := g_lt h
          refine g_iast C 134 (by omega) rfl rfl hg15 eA16 dX4_write_96 ?_
          refine g_aload_n C 3 dX4_write_97 rfl ?_
          refine g_get (v := gr 134) C 129 4 (by omega) rfl rfl gu_4 (by decide) qf_X4_24 rfl dX4_write_98 ?_
          refine g_iload C 2 dX4_write_101 rfl ?_
          refine g_iconst (v := 1) C dX4_write_103 (by decide) ?_
          refine g_iadd C dX4_write_104 ?_
          refine g_aload_n C 3 dX4_write_105 rfl ?_
          refine g_get (v := gr 131) C 129 1 (by omega) rfl rfl gu_4 (by decide) qf_X4_15 rfl dX4_write_106 ?_
          refine g_iload C 1 dX4_write_109 rfl ?_
          obtain ⟨hg17, h⟩ := g_gd h
          refine g_iald C 131 (by omega) rfl rfl hg17 dX4_write_111 ?_
          obtain ⟨hg18, h⟩ := g_gd h
          obtain ⟨A19, eA19, h⟩ := g_lt h
          refine g_iast C 134 (by omega) rfl rfl hg18 eA19 dX4_write_112 ?_
          obtain ⟨v20, ev20, h⟩ := g_lt h
          refine g_iinc C 2 dX4_write_113 rfl ev20 (by decide) rfl ?_
          refine g_sub [3, 4, 1, 0] rfl ?_
          exact wX4_write_b116 hN C hr hK17 h

set_option maxHeartbeats 2000000 in
set_option maxRecDepth 20000 in
theorem wX4_write_L17 (hN : 183 ≤ N) {A0 A' : gM} {r : Int32} (C : gC p R s m args meth c cX4_write RX4 6 D g (va_A (gw g ad ln A0 N) s.heap.size) 2) (hr : meth.sig.returnType = some .int)  : ∀ (f : Nat) {A : gM} {x3 : Int32} {x4 : Int32}, mX4_write_L17 f A x3 x4 = some (A', r) → gJ p l e R s m args below meth c (gEi below D g N ad ln A0 A' r args s) 6 D g (va_A (gw g ad ln A0 N) s.heap.size) N ad ln A [(0, gr 129), (2, gr 182), (3, gi x3), (4, gi x4)] 0 0 17 []
  | 0, A, x3, x4, h => by cases h
  | f + 1, A, x3, x4, h => wX4_write_b17 hN C hr (fun {A} {x3} {x4} h => wX4_write_L17 hN C hr f h) h
set_option maxHeartbeats 2000000 in
set_option maxRecDepth 20000 in
theorem wX4_write_b0 (hN : 183 ≤ N) {A0 A' : gM} {r : Int32} (C : gC p R s m args meth c cX4_write RX4 6 D g (va_A (gw g ad ln A0 N) s.heap.size) 2) (hr : meth.sig.returnType = some .int)  {A : gM} {x1 : Int32} (h : mX4_write_b0 A x1 = some (A', r)) : gJ p l e R s m args below meth c (gEi below D g N ad ln A0 A' r args s) 6 D g (va_A (gw g ad ln A0 N) s.heap.size) N ad ln A [(0, gr 129), (1, gi x1), (2, gr 182)] 0 0 0 [] := by
  unfold mX4_write_b0 at h
  refine g_iconst (v := 0) C dX4_write_0 (by decide) ?_
  refine g_istore_n C dX4_write_1 (by decide) rfl ?_
  refine g_iconst (v := 1) C dX4_write_2 (by decide) ?_
  refine g_istore C dX4_write_3 (by decide) rfl ?_
  refine g_aload_n C 2 dX4_write_5 rfl ?_
  refine g_iconst (v := 0) C dX4_write_6 (by decide) ?_
  obtain ⟨A1, eA1, h⟩ := g_lt h
  refine g_put C 129 8 tyX4 tyX4_ok nmX4 (by omega) rfl rfl gu_4 (by decide) qf_X4_70 rfl (by decide +kernel) (Nat.le_of_ble_eq_true rfl) rfl eA1 dX4_write_7 ?_
  refine g_aload_n C 2 dX4_write_10 rfl ?_
  refine g_get (v := gr 134) C 129 4 (by omega) rfl rfl gu_4 (by decide) qf_X4_24 rfl dX4_write_11 ?_
  refine g_iconst (v := 0) C dX4_write_14 (by decide) ?_
  refine g_iload_n C 3 dX4_write_15 rfl ?_
  obtain ⟨hg2, h⟩ := g_gd h
  obtain ⟨A3, eA3, h⟩ := g_lt h
  refine g_iast C 134 (by omega) rfl rfl hg2 eA3 dX4_write_16 ?_
  refine g_sub [2, 4, 1, 0] rfl ?_
  exact wX4_write_L17 hN C hr gF h

set_option maxHeartbeats 2000000 in
set_option maxRecDepth 20000 in
theorem kX4_write {l : Launch} {D : va_G} {g : gT} {N : Nat} {ad ln : Nat → Nat} (hN : 183 ≤ N) {A A' : gM} {x1 : Int32} {r : Int32} (h : mX4_write A x1 = some (A', r)) : gKi l yX4_write cX4_write 6 (some .int) (2) D g N ad ln A [gr 129, gi x1, gr 182] A' r := by
  refine g_meti (by decide) (Nat.le_of_ble_eq_true rfl) ?_
  intro p e s m args below meth c C hr
  refine g_sub [0, 1, 2] rfl ?_
  exact wX4_write_b0 hN C hr h
def mX4_build_b172 (A : gM) (s0 : Int32) : Option (gM × Int32) :=
  some (A, s0)
def mX4_build_b150 (K33 : gM → Nat → Int32 → Int32 → Option (gM × Int32)) (A : gM) (x1 : Nat) (x3 : Int32) (x4 : Int32) : Option (gM × Int32) :=
  g_let (x4 + (-1)) fun v1 =>
  K33 A x1 x3 v1
def mX4_build_b132 (K33 : gM → Nat → Int32 → Int32 → Option (gM × Int32)) (A : gM) (x1 : Nat) (x3 : Int32) (x4 : Int32) (x6 : Int32) : Option (gM × Int32) :=
  if 5208 ≤ x3 then
  mX4_build_b150 K33 A x1 x3 x4
  else
  if g_in x3 5208 = true then g_let (g_up A 134 x3.toNatClampNeg x6) fun A3 =>
  g_let (x3 + 1) fun v4 =>
  mX4_build_b150 K33 A3 x1 v4 x4
  else none
def mX4_build_b33 (K33 : gM → Nat → Int32 → Int32 → Option (gM × Int32)) (A : gM) (x1 : Nat) (x3 : Int32) (x4 : Int32) : Option (gM × Int32) :=
  if x4 < 0 then
  if x3 ≤ 0 then
  mX4_build_b172 A 0
  else
  if g_in (x3 - 1) 5208 = true then
  mX4_build_b172 A (A 134 (x3 - 1).toNatClampNeg)
  else none
  else
  if g_in x4 60 = true then
  g_let (A x1 x4.toNatClampNeg) fun v5 =>
  (mX4_isPair A v5).bind fun q6 =>
  if q6.2 = 0 then
  (mX4_isNode q6.1 v5).bind fun q8 =>
  if q8.2 = 0 then
  if v5 < 10 then
  mX4_build_b132 K33 q8.1 x1 x3 x4 v5
  else
  (mX4_variableAt q8.1 (v5 - 10)).bind fun q11 =>
  mX4_build_b132 K33 q11.1 x1 x3 x4 q11.2
  else
  (mX4_nodeOfCode q8.1 v5).bind fun q12 =>
  mX4_build_b132 K33 q12.1 x1 x3 x4 q12.2
  else
  if 2 ≤ x3 then
  if g_in (x3 - 1) 5208 = true then
  if g_in (x3 - 2) 5208 = true then
  (mX4_make q6.1 v5 (q6.1 134 (x3 - 1).toNatClampNeg) (q6.1 134 (x3 - 2).toNatClampNeg)).bind fun q16 =>
  g_let (x3 + (-2)) fun v17 =>
  mX4_build_b132 K33 q16.1 x1 v17 x4 q16.2
  else none
  else none
  else
  some (q6.1, 0)
  else none
def mX4_build_L33 : Nat → gM → Nat → Int32 → Int32 → Option (gM × Int32)
  | 0 => fun _ _ _ _ => none
  | f + 1 => mX4_build_b33 (mX4_build_L33 f)
def mX4_build_b2 (K2 : gM → Nat → Int32 → Int32 → Option (gM × Int32)) (A : gM) (x1 : Nat) (x2 : Int32) (x3 : Int32) : Option (gM × Int32) :=
  if 60 ≤ x3 then
  g_let ((if 60 < x2 then 60 else x2) - 1) fun v2 =>
  mX4_build_L33 gF A x1 0 v2
  else
  if g_in x3 60 = true then g_let (g_up A 137 x3.toNatClampNeg (-1)) fun A4 =>
  g_let (x3 + 1) fun v5 =>
  K2 A4 x1 x2 v5
  else none
def mX4_build_L2 : Nat → gM → Nat → Int32 → Int32 → Option (gM × Int32)
  | 0 => fun _ _ _ _ => none
  | f + 1 => mX4_build_b2 (mX4_build_L2 f)
def mX4_build_b0 (A : gM) (x1 : Nat) (x2 : Int32) : Option (gM × Int32) :=
  mX4_build_L2 gF A x1 x2 0
def mX4_build (A : gM) (x1 : Nat) (x2 : Int32) : Option (gM × Int32) := mX4_build_b0 A x1 x2
set_option maxHeartbeats 2000000 in
set_option maxRecDepth 20000 in
theorem wX4_build_b172 (hN : 183 ≤ N) {A0 A' : gM} {r : Int32} (C : gC p R s m args meth c cX4_build RX4 7 D g (va_A (gw g ad ln A0 N) s.heap.size) 3) (hr : meth.sig.returnType = some .int)  {A : gM} {s0 : Int32} (h : mX4_build_b172 A s0 = some (A', r)) : gJ p l e R s m args below meth c (gEi below D g N ad ln A0 A' r args s) 7 D g (va_A (gw g ad ln A0 N) s.heap.size) N ad ln A [] 0 0 172 [gi s0] := by
  unfold mX4_build_b172 at h
  obtain ⟨rfl, rfl⟩ := Prod.mk.inj (Option.some.inj h)
  exact g_reti C hr dX4_build_172

set_option maxHeartbeats 2000000 in
set_option maxRecDepth 20000 in
theorem wX4_build_b150 (hN : 183 ≤ N) {A0 A' : gM} {r : Int32} (C : gC p R s m args meth c cX4_build RX4 7 D g (va_A (gw g ad ln A0 N) s.heap.size) 3) (hr : meth.sig.returnType = some .int) {K33 : gM → Nat → Int32 → Int32 → Option (gM × Int32)} (hK33 : ∀ {A : gM} {x1 : Nat} {x3 : Int32} {x4 : Int32} (hx1 : (x1 < N ∧ g_isI x1 = true ∧ g_ln ln x1 = 60)), K33 A x1 x3 x4 = some (A', r) → gJ p l e R s m args below meth c (gEi below D g N ad ln A0 A' r args s) 7 D g (va_A (gw g ad ln A0 N) s.heap.size) N ad ln A [(0, gr 129), (1, gr x1), (3, gi x3), (4, gi x4)] 0 0 33 []) {A : gM} {x1 : Nat} {x3 : Int32} {x4 : Int32} (hx1 : (x1 < N ∧ g_isI x1 = true ∧ g_ln ln x1 = 60)) (h : mX4_build_b150 K33 A x1 x3 x4 = some (A', r)) : gJ p l e R s m args below meth c (gEi below D g N ad ln A0 A' r args s) 7 D g (va_A (gw g ad ln A0 N) s.heap.size) N ad ln A [(0, gr 129), (1, gr x1), (3, gi x3), (4, gi x4)] 0 0 150 [] := by
  unfold mX4_build_b150 at h
  obtain ⟨v1, ev1, h⟩ := g_lt h
  refine g_iinc C 3 dX4_build_150 rfl ev1 (by decide) rfl ?_
  refine g_goto C dX4_build_153 (tgt := 33) (by decide) ?_
  refine g_sub [1, 2, 3, 0] rfl ?_
  exact hK33 hx1 h

set_option maxHeartbeats 2000000 in
set_option maxRecDepth 20000 in
theorem wX4_build_b132 (hN : 183 ≤ N) {A0 A' : gM} {r : Int32} (C : gC p R s m args meth c cX4_build RX4 7 D g (va_A (gw g ad ln A0 N) s.heap.size) 3) (hr : meth.sig.returnType = some .int) {K33 : gM → Nat → Int32 → Int32 → Option (gM × Int32)} (hK33 : ∀ {A : gM} {x1 : Nat} {x3 : Int32} {x4 : Int32} (hx1 : (x1 < N ∧ g_isI x1 = true ∧ g_ln ln x1 = 60)), K33 A x1 x3 x4 = some (A', r) → gJ p l e R s m args below meth c (gEi below D g N ad ln A0 A' r args s) 7 D g (va_A (gw g ad ln A0 N) s.heap.size) N ad ln A [(0, gr 129), (1, gr x1), (3, gi x3), (4, gi x4)] 0 0 33 []) {A : gM} {x1 : Nat} {x3 : Int32} {x4 : Int32} {x6 : Int32} (hx1 : (x1 < N ∧ g_isI x1 = true ∧ g_ln ln x1 = 60)) (h : mX4_build_b132 K33 A x1 x3 x4 x6 = some (A', r)) : gJ p l e R s m args below meth c (gEi below D g N ad ln A0 A' r args s) 7 D g (va_A (gw g ad ln A0 N) s.heap.size) N ad ln A [(0, gr 129), (1, gr x1), (3, gi x3), (4, gi x4), (6, gi x6)] 0 0 132 [] := by
  unfold mX4_build_b132 at h
  refine g_iload_n C 2 dX4_build_132 rfl ?_
  refine g_sipush (v := 5208) C dX4_build_133 (by decide) ?_
  refine g_icmp_ge C dX4_build_136 (tgt := 150) (by decide) (fun c1 => ?_) (fun c1 => ?_)
  · have h := g_tt c1 h
    refine g_sub [0, 1, 2, 3] rfl ?_
    exact wX4_build_b150 hN C hr hK33 hx1 h
  · have h := g_ff c1 h
    refine g_aload_n C 0 dX4_build_139 rfl ?_
    refine g_get (v := gr 134) C 129 4 (by omega) rfl rfl gu_4 (by decide) qf_X4_24 rfl dX4_build_140 ?_
    refine g_iload_n C 2 dX4_build_143 rfl ?_
    refine g_iload C 4 dX4_build_144 rfl ?_
    obtain ⟨hg2, h⟩ := g_gd h
    obtain ⟨A3, eA3, h⟩ := g_lt h
    refine g_iast C 134 (by omega) rfl rfl hg2 eA3 dX4_build_146 ?_
    obtain ⟨v4, ev4, h⟩ := g_lt h
    refine g_iinc C 2 dX4_build_147 rfl ev4 (by decide) rfl ?_
    refine g_sub [1, 2, 0, 3] rfl ?_
    exact wX4_build_b150 hN C hr hK33 hx1 h

set_option maxHeartbeats 2000000 in
set_option maxRecDepth 20000 in
theorem wX4_build_b33 (hN : 183 ≤ N) {A0 A' : gM} {r : Int32} (C : gC p R s m args meth c cX4_build RX4 7 D g (va_A (gw g ad ln A0 N) s.heap.size) 3) (hr : meth.sig.returnType = some .int) {K33 : gM → Nat → Int32 → Int32 → Option (gM × Int32)} (hK33 : ∀ {A : gM} {x1 : Nat} {x3 : Int32} {x4 : Int32} (hx1 : (x1 < N ∧ g_isI x1 = true ∧ g_ln ln x1 = 60)), K33 A x1 x3 x4 = some (A', r) → gJ p l e R s m args below meth c (gEi below D g N ad ln A0 A' r args s) 7 D g (va_A (gw g ad ln A0 N) s.heap.size) N ad ln A [(0, gr 129), (1, gr x1), (3, gi x3), (4, gi x4)] 0 0 33 []) {A : gM} {x1 : Nat} {x3 : Int32} {x4 : Int32} (hx1 : (x1 < N ∧ g_isI x1 = true ∧ g_ln ln x1 = 60)) (h : mX4_build_b33 K33 A x1 x3 x4 = some (A', r)) : gJ p l e R s m args below meth c (gEi below D g N ad ln A0 A' r args s) 7 D g (va_A (gw g ad ln A0 N) s.heap.size) N ad ln A [(0, gr 129), (1, gr x1), (3, gi x3), (4, gi x4)] 0 0 33 [] := by
  unfold mX4_build_b33 at h
  refine g_iload C 3 dX4_build_33 rfl ?_
  refine g_if_lt C dX4_build_35 (tgt := 156) (by decide) (fun c1 => ?_) (fun c1 => ?_)
  · have h := g_tt c1 h
    refine g_iload_n C 2 dX4_build_156 rfl ?_
    refine g_if_le C dX4_build_157 (tgt := 171) (by decide) (fun c2 => ?_) (fun c2 => ?_)
    · have h := g_tt c2 h
      refine g_iconst (v := 0) C dX4_build_171 (by decide) ?_
      refine g_sub [] rfl ?_
      exact wX4_build_b172 hN C hr h
    · have h := g_ff c2 h
      refine g_aload_n C 0 dX4_build_160 rfl ?_
      refine g_get (v := gr 134) C 129 4 (by omega) rfl rfl gu_4 (by decide) qf_X4_24 rfl dX4_build_161 ?_
      refine g_iload_n C 2 dX4_build_164 rfl ?_
      refine g_iconst (v := 1) C dX4_build_165 (by decide) ?_
      refine g_isub C dX4_build_166 ?_
      obtain ⟨hg3, h⟩ := g_gd h
      refine g_iald C 134 (by omega) rfl rfl hg3 dX4_build_167 ?_
      refine g_goto C dX4_build_168 (tgt := 172) (by decide) ?_
      refine g_sub [] rfl ?_
      exact wX4_build_b172 hN C hr h
  · have h := g_ff c1 h
    refine g_aload_n C 1 dX4_build_38 rfl ?_
    refine g_iload C 3 dX4_build_39 rfl ?_
    obtain ⟨hg4, h⟩ := g_gd h
    refine g_iald C x1 hx1.1 hx1.2.1 hx1.2.2 hg4 dX4_build_41 ?_
    obtain ⟨v5, ev5, h⟩ := g_lt h
    refine g_topi ev5 ?_
    refine g_istore C dX4_build_42 (by decide) rfl ?_
    refine g_iload C 0 dX4_build_44 rfl ?_
    refine g_istore C dX4_build_46 (by decide) rfl ?_
    refine g_aload_n C 2 dX4_build_48 rfl ?_
    refine g_iload C 1 dX4_build_49 rfl ?_
    obtain ⟨q6, eq6, h⟩ := g_bd h
    refine g_calliV C 129 [gi v5] (kX4_isPair hN eq6) qs_X4_52 (by omega) (by omega) rfl rfl rfl rfl (Nat.le_of_ble_eq_true rfl) ⟨Nat.zero_le _, Nat.zero_le _⟩ dX4_build_51 ?_
    refine g_if_eq C dX4_build_54 (tgt := 94) (by decide) (fun c7 => ?_) (fun c7 => ?_)
    · have h := g_tt c7 h
      refine g_aload_n C 2 dX4_build_94 rfl ?_
      refine g_iload C 1 dX4_build_95 rfl ?_
      obtain ⟨q8, eq8, h⟩ := g_bd h
      refine g_calliV C 129 [gi v5] (kX4_isNode hN eq8) qs_X4_88 (by omega) (by omega) rfl rfl rfl rfl (Nat.le_of_ble_eq_true rfl) ⟨Nat.zero_le _, Nat.zero_le _⟩ dX4_build_97 ?_
      refine g_if_eq C dX4_build_100 (tgt := 114) (by decide) (fun c9 => ?_) (fun c9 => ?_)
      · have h := g_tt c9 h
        refine g_iload C 1 dX4_build_114 rfl ?_
        refine g_bipush (v := 10) C dX4_build_116 (by decide) ?_
        refine g_icmp_lt C dX4_build_118 (tgt := 132) (by decide) (fun c10 => ?_) (fun c10 => ?_)
        · have h := g_tt c10 h
          refine g_sub [2, 3, 4, 5, 0] rfl ?_
          exact wX4_build_b132 hN C hr hK33 hx1 h
        · have h := g_ff c10 h
          refine g_aload_n C 2 dX4_build_121 rfl ?_
          refine g_iload C 1 dX4_build_122 rfl ?_
          refine g_bipush (v := 10) C dX4_build_124 (by decide) ?_
          refine g_isub C dX4_build_126 ?_
          obtain ⟨q11, eq11, h⟩ := g_bd h
          refine g_calliV C 129 [gi (v5 - 10)] (kX4_variableAt hN eq11) qs_X4_94 (by omega) (by omega) rfl rfl rfl rfl (Nat.le_of_ble_eq_true rfl) ⟨Nat.zero_le _, Nat.zero_le _⟩ dX4_build_127 ?_
          refine g_istore C dX4_build_130 (by decide) rfl ?_
          refine g_sub [2, 3, 4, 5, 0] rfl ?_
          exact wX4_build_b132 hN C hr hK33 hx1 h
      · have h := g_ff c9 h
        refine g_aload_n C 2 dX4_build_103 rfl ?_
        refine g_iload C 1 dX4_build_104 rfl ?_
        obtain ⟨q12, eq12, h⟩ := g_bd h
        refine g_calliV C 129 [gi v5] (kX4_nodeOfCode hN eq12) qs_X4_91 (by omega) (by omega) rfl rfl rfl rfl (Nat.le_of_ble_eq_true rfl) ⟨Nat.zero_le _, Nat.zero_le _⟩ dX4_build_106 ?_
        refine g_istore C dX4_build_109 (by decide) rfl ?_
        refine g_goto C dX4_build_111 (tgt := 132) (by decide) ?_
        refine g_sub [2, 3, 4, 5, 0] rfl ?_
        exact wX4_build_b132 hN C hr hK33 hx1 h
    · have h := g_ff c7 h
      refine g_iload_n C 4 dX4_build_57 rfl ?_
      refine g_iconst (v := 2) C dX4_build_58 (by decide) ?_
      refine g_icmp_ge C dX4_build_59 (tgt := 64) (by decide) (fun c13 => ?_) (fun c13 => ?_)
      · have h := g_tt c13 h
        refine g_aload_n C 2 dX4_build_64 rfl ?_
        refine g_iload C 1 dX4_build_65 rfl ?_
        refine g_aload_n C 2 dX4_build_67 rfl ?_
        refine g_get (v := gr 134) C 129 4 (by omega) rfl rfl gu_4 (by decide) qf_X4_24 rfl dX4_build_68 ?_
        refine g_iload_n C 4 dX4_build_71 rfl ?_
        refine g_iconst (v := 1) C dX4_build_72 (by decide) ?_
        refine g_isub C dX4_build_73 ?_
        obtain ⟨hg14, h⟩ := g_gd h
        refine g_iald C 134 (by omega) rfl rfl hg14 dX4_build_74 ?_
        refine g_aload_n C 2 dX4_build_75 rfl ?_
        refine g_get (v := gr 134) C 129 4 (by omega) rfl rfl gu_4 (by decide) qf_X4_24 rfl dX4_build_76 ?_
        refine g_iload_n C 4 dX4_build_79 rfl ?_
        refine g_iconst (v := 2) C dX4_build_80 (by decide) ?_
        refine g_isub C dX4_build_81 ?_
        obtain ⟨hg15, h⟩ := g_gd h
        refine g_iald C 134 (by omega) rfl rfl hg15 dX4_build_82 ?_
        obtain ⟨q16, eq16, h⟩ := g_bd h
        refine g_calliV C 129 [gi v5, gi (q6.1 134 (x3 - 1).toNatClampNeg), gi (q6.1 134 (x3 - 2).toNatClampNeg)] (kX4_make hN eq16) qs_X4_40 (by omega) (by omega) rfl rfl rfl rfl (Nat.le_of_ble_eq_true rfl) ⟨Nat.zero_le _, Nat.zero_le _⟩ dX4_build_83 ?_
        refine g_istore C dX4_build_86 (by decide) rfl ?_
        obtain ⟨v17, ev17, h⟩ := g_lt h
        refine g_iinc C 4 dX4_build_88 rfl ev17 (by decide) rfl ?_
        refine g_goto C dX4_build_91 (tgt := 132) (by decide) ?_
        refine g_sub [3, 4, 0, 5, 1] rfl ?_
        exact wX4_build_b132 hN C hr hK33 hx1 h
      · have h := g_ff c13 h
        refine g_iconst (v := 0) C dX4_build_62 (by decide) ?_
        obtain ⟨rfl, rfl⟩ := Prod.mk.inj (Option.some.inj h)
        exact g_reti C hr dX4_build_63

set_option maxHeartbeats 2000000 in
set_option maxRecDepth 20000 in
theorem wX4_build_L33 (hN : 183 ≤ N) {A0 A' : gM} {r : Int32} (C : gC p R s m args meth c cX4_build RX4 7 D g (va_A (gw g ad ln A0 N) s.heap.size) 3) (hr : meth.sig.returnType = some .int)  : ∀ (f : Nat) {A : gM} {x1 : Nat} {x3 : Int32} {x4 : Int32} (hx1 : (x1 < N ∧ g_isI x1 = true ∧ g_ln ln x1 = 60)), mX4_build_L33 f A x1 x3 x4 = some (A', r) → gJ p l e R s m args below meth c (gEi below D g N ad ln A0 A' r args s) 7 D g (va_A (gw g ad ln A0 N) s.heap.size) N ad ln A [(0, gr 129), (1, gr x1), (3, gi x3), (4, gi x4)] 0 0 33 []
  | 0, A, x1, x3, x4, hx1, h => by cases h
  | f + 1, A, x1, x3, x4, hx1, h => wX4_build_b33 hN C hr (fun {A} {x1} {x3} {x4} hx1 h => wX4_build_L33 hN C hr f hx1 h) hx1 h
set_option maxHeartbeats 2000000 in
set_option maxRecDepth 20000 in
theorem wX4_build_b2 (hN : 183 ≤ N) {A0 A' : gM} {r : Int32} (C : gC p R s m args meth c cX4_build RX4 7 D g (va_A (gw g ad ln A0 N) s.heap.size) 3) (hr : meth.sig.returnType = some .int) {K2 : gM → Nat → Int32 → Int32 → Option (gM × Int32)} (hK2 : ∀ {A : gM} {x1 : Nat} {x2 : Int32} {x3 : Int32} (hx1 : (x1 < N ∧ g_isI x1 = true ∧ g_ln ln x1 = 60)), K2 A x1 x2 x3 = some (A', r) → gJ p l e R s m args below meth c (gEi below D g N ad ln A0 A' r args s) 7 D g (va_A (gw g ad ln A0 N) s.heap.size) N ad ln A [(0, gr 129), (1, gr x1), (2, gi x2), (3, gi x3)] 0 0 2 []) {A : gM} {x1 : Nat} {x2 : Int32} {x3 : Int32} (hx1 : (x1 < N ∧ g_isI x1 = true ∧ g_ln ln x1 = 60)) (h : mX4_build_b2 K2 A x1 x2 x3 = some (A', r)) : gJ p l e R s m args below meth c (gEi below D g N ad ln A0 A' r args s) 7 D g (va_A (gw g ad ln A0 N) s.heap.size) N ad ln A [(0, gr 129), (1, gr x1), (2, gi x2), (3, gi x3)] 0 0 2 [] := by
  unfold mX4_build_b2 at h
  refine g_iload_n C 3 dX4_build_2 rfl ?_
  refine g_bipush (v := 60) C dX4_build_3 (by decide) ?_
  refine g_icmp_ge C dX4_build_5 (tgt := 21) (by decide) (fun c1 => ?_) (fun c1 => ?_)
  · have h := g_tt c1 h
    refine g_iconst (v := 0) C dX4_build_21 (by decide) ?_
    refine g_istore_n C dX4_build_22 (by decide) rfl ?_
    refine g_iload_n C 3 dX4_build_23 rfl ?_
    refine g_aload_n C 2 dX4_build_24 rfl ?_
    refine g_alen (v := 60) C x1 hx1.1 hx1.2.1 (by rw [hx1.2.2]; rfl) dX4_build_25 ?_
    refine g_mmin C qm_X4_82 (by decide) (Nat.le_of_ble_eq_true rfl) ⟨Nat.zero_le _, Nat.zero_le _⟩ dX4_build_26 ?_
    refine g_iconst (v := 1) C dX4_build_29 (by decide) ?_
    refine g_isub C dX4_build_30 ?_
    obtain ⟨v2, ev2, h⟩ := g_lt h
    refine g_topi ev2 ?_
    refine g_istore C dX4_build_31 (by decide) rfl ?_
    refine g_sub [2, 3, 1, 0] rfl ?_
    exact wX4_build_L33 hN C hr gF hx1 h
  · have h := g_ff c1 h
    refine g_aload_n C 0 dX4_build_8 rfl ?_
    refine g_get (v := gr 137) C 129 7 (by omega) rfl rfl gu_4 (by decide) qf_X4_33 rfl dX4_build_9 ?_
    refine g_iload_n C 3 dX4_build_12 rfl ?_
    refine g_iconst (v := (-1)) C dX4_build_13 (by decide) ?_
    obtain ⟨hg3, h⟩ := g_gd h
    obtain ⟨A4, eA4, h⟩ := g_lt h
    refine g_iast C 137 (by omega) rfl rfl hg3 eA4 dX4_build_14 ?_
    obtain ⟨v5, ev5, h⟩ := g_lt h
    refine g_iinc C 3 dX4_build_15 rfl ev5 (by decide) rfl ?_
    refine g_goto C dX4_build_18 (tgt := 2) (by decide) ?_
    refine g_sub [1, 2, 3, 0] rfl ?_
    exact hK2 hx1 h

set_option maxHeartbeats 2000000 in
set_option maxRecDepth 20000 in
theorem wX4_build_L2 (hN : 183 ≤ N) {A0 A' : gM} {r : Int32} (C : gC p R s m args meth c cX4_build RX4 7 D g (va_A (gw g ad ln A0 N) s.heap.size) 3) (hr : meth.sig.returnType = some .int)  : ∀ (f : Nat) {A : gM} {x1 : Nat} {x2 : Int32} {x3 : Int32} (hx1 : (x1 < N ∧ g_isI x1 = true ∧ g_ln ln x1 = 60)), mX4_build_L2 f A x1 x2 x3 = some (A', r) → gJ p l e R s m args below meth c (gEi below D g N ad ln A0 A' r args s) 7 D g (va_A (gw g ad ln A0 N) s.heap.size) N ad ln A [(0, gr 129), (1, gr x1), (2, gi x2), (3, gi x3)] 0 0 2 []
  | 0, A, x1, x2, x3, hx1, h => by cases h
  | f + 1, A, x1, x2, x3, hx1, h => wX4_build_b2 hN C hr (fun {A} {x1} {x2} {x3} hx1 h => wX4_build_L2 hN C hr f hx1 h) hx1 h
set_option maxHeartbeats 2000000 in
set_option maxRecDepth 20000 in
theorem wX4_build_b0 (hN : 183 ≤ N) {A0 A' : gM} {r : Int32} (C : gC p R s m args meth c cX4_build RX4 7 D g (va_A (gw g ad ln A0 N) s.heap.size) 3) (hr : meth.sig.returnType = some .int)  {A : gM} {x1 : Nat} {x2 : Int32} (hx1 : (x1 < N ∧ g_isI x1 = true ∧ g_ln ln x1 = 60)) (h : mX4_build_b0 A x1 x2 = some (A', r)) : gJ p l e R s m args below meth c (gEi below D g N ad ln A0 A' r args s) 7 D g (va_A (gw g ad ln A0 N) s.heap.size) N ad ln A [(0, gr 129), (1, gr x1), (2, gi x2)] 0 0 0 [] := by
  unfold mX4_build_b0 at h
  refine g_iconst (v := 0) C dX4_build_0 (by decide) ?_
  refine g_istore_n C dX4_build_1 (by decide) rfl ?_
  refine g_sub [1, 2, 3, 0] rfl ?_
  exact wX4_build_L2 hN C hr gF hx1 h

set_option maxHeartbeats 2000000 in
set_option maxRecDepth 20000 in
theorem kX4_build {l : Launch} {D : va_G} {g : gT} {N : Nat} {ad ln : Nat → Nat} (hN : 183 ≤ N) {A A' : gM} {x1 : Nat} {x2 : Int32} {r : Int32} (hx1 : (x1 < N ∧ g_isI x1 = true ∧ g_ln ln x1 = 60)) (h : mX4_build A x1 x2 = some (A', r)) : gKi l yX4_build cX4_build 7 (some .int) (3) D g N ad ln A [gr 129, gr x1, gi x2] A' r := by
  refine g_meti (by decide) (Nat.le_of_ble_eq_true rfl) ?_
  intro p e s m args below meth c C hr
  refine g_sub [0, 1, 2] rfl ?_
  exact wX4_build_b0 hN C hr hx1 h
def mX2_made_b0 (A : gM) : Option (gM × Int32) :=
  some (A, (A 1 1))
def mX2_made (A : gM) : Option (gM × Int32) := mX2_made_b0 A
set_option maxHeartbeats 2000000 in
set_option maxRecDepth 20000 in
theorem wX2_made_b0 (hN : 183 ≤ N) {A0 A' : gM} {r : Int32} (C : gC p R s m args meth c cX2_made RX2 1 D g (va_A (gw g ad ln A0 N) s.heap.size) 0) (hr : meth.sig.returnType = some .int)  {A : gM} (h : mX2_made_b0 A = some (A', r)) : gJ p l e R s m args below meth c (gEi below D g N ad ln A0 A' r args s) 1 D g (va_A (gw g ad ln A0 N) s.heap.size) N ad ln A [(0, gr 1)] 0 0 0 [] := by
  unfold mX2_made_b0 at h
  refine g_aload_n C 0 dX2_made_0 rfl ?_
  refine g_get (v := gi (A 1 1)) C 1 1 (by omega) rfl rfl gu_2 (by decide) qf_X2_16 rfl dX2_made_1 ?_
  obtain ⟨rfl, rfl⟩ := Prod.mk.inj (Option.some.inj h)
  exact g_reti C hr dX2_made_4

set_option maxHeartbeats 2000000 in
set_option maxRecDepth 20000 in
theorem kX2_made {l : Launch} {D : va_G} {g : gT} {N : Nat} {ad ln : Nat → Nat} (hN : 183 ≤ N) {A A' : gM} {r : Int32} (h : mX2_made A = some (A', r)) : gKi l yX2_made cX2_made 1 (some .int) (0) D g N ad ln A [gr 1] A' r := by
  refine g_meti (by decide) (Nat.le_of_ble_eq_true rfl) ?_
  intro p e s m args below meth c C hr
  refine g_sub [0] rfl ?_
  exact wX2_made_b0 hN C hr h
def mX2_fact_b50 (A : gM) (s0 : Int32) : Option (gM × Int32) :=
  some (A, s0)
def mX2_fact_b49 (A : gM) : Option (gM × Int32) :=
  mX2_fact_b50 A (-1)
def mX2_fact_b23 (A : gM) (x1 : Int32) (x2 : Int32) (s0 : Int32) : Option (gM × Int32) :=
  if s0 = 0 then
  mX2_fact_b49 A
  else
  if x2 < 0 then
  mX2_fact_b49 A
  else
  if 7 ≤ x2 then
  mX2_fact_b49 A
  else
  if g_in x1 40 = true then
  if g_in x2 7 = true then
  mX2_fact_b50 A (A (3 + x1.toNatClampNeg) x2.toNatClampNeg)
  else none
  else none
def mX2_fact_b22 (A : gM) (x1 : Int32) (x2 : Int32) : Option (gM × Int32) :=
  mX2_fact_b23 A x1 x2 0
def mX2_fact_b0 (A : gM) (x1 : Int32) (x2 : Int32) : Option (gM × Int32) :=
  if x1 < 0 then
  mX2_fact_b22 A x1 x2
  else
  if (A 1 1) ≤ x1 then
  mX2_fact_b22 A x1 x2
  else
  if 40 ≤ x1 then
  mX2_fact_b22 A x1 x2
  else
  mX2_fact_b23 A x1 x2 1
def mX2_fact (A : gM) (x1 : Int32) (x2 : Int32) : Option (gM × Int32) := mX2_fact_b0 A x1 x2
set_option maxHeartbeats 2000000 in
set_option maxRecDepth 20000 in
theorem wX2_fact_b50 (hN : 183 ≤ N) {A0 A' : gM} {r : Int32} (C : gC p R s m args meth c cX2_fact RX2 4 D g (va_A (gw g ad ln A0 N) s.heap.size) 0) (hr : meth.sig.returnType = some .int)  {A : gM} {s0 : Int32} (h : mX2_fact_b50 A s0 = some (A', r)) : gJ p l e R s m args below meth c (gEi below D g N ad ln A0 A' r args s) 4 D g (va_A (gw g ad ln A0 N) s.heap.size) N ad ln A [] 0 0 50 [gi s0] := by
  unfold mX2_fact_b50 at h
  obtain ⟨rfl, rfl⟩ := Prod.mk.inj (Option.some.inj h)
  exact g_reti C hr dX2_fact_50

set_option maxHeartbeats 2000000 in
set_option maxRecDepth 20000 in
theorem wX2_fact_b49 (hN : 183 ≤ N) {A0 A' : gM} {r : Int32} (C : gC p R s m args meth c cX2_fact RX2 4 D g (va_A (gw g ad ln A0 N) s.heap.size) 0) (hr : meth.sig.returnType = some .int)  {A : gM} (h : mX2_fact_b49 A = some (A', r)) : gJ p l e R s m args below meth c (gEi below D g N ad ln A0 A' r args s) 4 D g (va_A (gw g ad ln A0 N) s.heap.size) N ad ln A [] 0 0 49 [] := by
  unfold mX2_fact_b49 at h
  refine g_iconst (v := (-1)) C dX2_fact_49 (by decide) ?_
  refine g_sub [] rfl ?_
  exact wX2_fact_b50 hN C hr h

set_option maxHeartbeats 2000000 in
set_option maxRecDepth 20000 in
theorem wX2_fact_b23 (hN : 183 ≤ N) {A0 A' : gM} {r : Int32} (C : gC p R s m args meth c cX2_fact RX2 4 D g (va_A (gw g ad ln A0 N) s.heap.size) 0) (hr : meth.sig.returnType = some .int)  {A : gM} {x1 : Int32} {x2 : Int32} {s0 : Int32} (h : mX2_fact_b23 A x1 x2 s0 = some (A', r)) : gJ p l e R s m args below meth c (gEi below D g N ad ln A0 A' r args s) 4 D g (va_A (gw g ad ln A0 N) s.heap.size) N ad ln A [(0, gr 1), (1, gi x1), (2, gi x2)] 0 0 23 [gi s0] := by
  unfold mX2_fact_b23 at h
  refine g_istore_n C dX2_fact_23 (by decide) rfl ?_
  refine g_iload_n C 0 dX2_fact_24 rfl ?_
  refine g_if_eq C dX2_fact_25 (tgt := 49) (by decide) (fun c1 => ?_) (fun c1 => ?_)
  · have h := g_tt c1 h
    refine g_sub [] rfl ?_
    exact wX2_fact_b49 hN C hr h
  · have h := g_ff c1 h
    refine g_iload_n C 3 dX2_fact_28 rfl ?_
    refine g_if_lt C dX2_fact_29 (tgt := 49) (by decide) (fun c2 => ?_) (fun c2 => ?_)
    · have h := g_tt c2 h
      refine g_sub [] rfl ?_
      exact wX2_fact_b49 hN C hr h
    · have h := g_ff c2 h
      refine g_iload_n C 3 dX2_fact_32 rfl ?_
      refine g_bipush (v := 7) C dX2_fact_33 (by decide) ?_
      refine g_icmp_ge C dX2_fact_35 (tgt := 49) (by decide) (fun c3 => ?_) (fun c3 => ?_)
      · have h := g_tt c3 h
        refine g_sub [] rfl ?_
        exact wX2_fact_b49 hN C hr h
      · have h := g_ff c3 h
        refine g_aload_n C 1 dX2_fact_38 rfl ?_
        refine g_get (v := gr 2) C 1 0 (by omega) rfl rfl gu_2 (by decide) qf_X2_11 rfl dX2_fact_39 ?_
        refine g_iload_n C 2 dX2_fact_42 rfl ?_
        obtain ⟨hg4, h⟩ := g_gd h
        refine g_aald C 2 3 (by omega) rfl hg4 dX2_fact_43 ?_
        refine g_iload_n C 3 dX2_fact_44 rfl ?_
        obtain ⟨hg5, h⟩ := g_gd h
        refine g_iald C (3 + x1.toNatClampNeg) (g_row3 (ln := ln) hN hg4).1 (g_row3 (ln := ln) hN hg4).2.1 (g_row3 (ln := ln) hN hg4).2.2 hg5 dX2_fact_45 ?_
        refine g_goto C dX2_fact_46 (tgt := 50) (by decide) ?_
        refine g_sub [] rfl ?_
        exact wX2_fact_b50 hN C hr h

set_option maxHeartbeats 2000000 in
set_option maxRecDepth 20000 in
theorem wX2_fact_b22 (hN : 183 ≤ N) {A0 A' : gM} {r : Int32} (C : gC p R s m args meth c cX2_fact RX2 4 D g (va_A (gw g ad ln A0 N) s.heap.size) 0) (hr : meth.sig.returnType = some .int)  {A : gM} {x1 : Int32} {x2 : Int32} (h : mX2_fact_b22 A x1 x2 = some (A', r)) : gJ p l e R s m args below meth c (gEi below D g N ad ln A0 A' r args s) 4 D g (va_A (gw g ad ln A0 N) s.heap.size) N ad ln A [(0, gr 1), (1, gi x1), (2, gi x2)] 0 0 22 [] := by
  unfold mX2_fact_b22 at h
  refine g_iconst (v := 0) C dX2_fact_22 (by decide) ?_
  refine g_sub [0, 1, 2] rfl ?_
  exact wX2_fact_b23 hN C hr h

set_option maxHeartbeats 2000000 in
set_option maxRecDepth 20000 in
theorem wX2_fact_b0 (hN : 183 ≤ N) {A0 A' : gM} {r : Int32} (C : gC p R s m args meth c cX2_fact RX2 4 D g (va_A (gw g ad ln A0 N) s.heap.size) 0) (hr : meth.sig.returnType = some .int)  {A : gM} {x1 : Int32} {x2 : Int32} (h : mX2_fact_b0 A x1 x2 = some (A', r)) : gJ p l e R s m args below meth c (gEi below D g N ad ln A0 A' r args s) 4 D g (va_A (gw g ad ln A0 N) s.heap.size) N ad ln A [(0, gr 1), (1, gi x1), (2, gi x2)] 0 0 0 [] := by
  unfold mX2_fact_b0 at h
  refine g_iload_n C 1 dX2_fact_0 rfl ?_
  refine g_if_lt C dX2_fact_1 (tgt := 22) (by decide) (fun c1 => ?_) (fun c1 => ?_)
  · have h := g_tt c1 h
    refine g_sub [0, 1, 2] rfl ?_
    exact wX2_fact_b22 hN C hr h
  · have h := g_ff c1 h
    refine g_iload_n C 1 dX2_fact_4 rfl ?_
    refine g_aload_n C 0 dX2_fact_5 rfl ?_
    refine g_get (v := gi (A 1 1)) C 1 1 (by omega) rfl rfl gu_2 (by decide) qf_X2_16 rfl dX2_fact_6 ?_
    refine g_icmp_ge C dX2_fact_9 (tgt := 22) (by decide) (fun c2 => ?_) (fun c2 => ?_)
    · have h := g_tt c2 h
      refine g_sub [0, 1, 2] rfl ?_
      exact wX2_fact_b22 hN C hr h
    · have h := g_ff c2 h
      refine g_iload_n C 1 dX2_fact_12 rfl ?_
      refine g_bipush (v := 40) C dX2_fact_13 (by decide) ?_
      refine g_icmp_ge C dX2_fact_15 (tgt := 22) (by decide) (fun c3 => ?_) (fun c3 => ?_)
      · have h := g_tt c3 h
        refine g_sub [0, 1, 2] rfl ?_
        exact wX2_fact_b22 hN C hr h
      · have h := g_ff c3 h
        refine g_iconst (v := 1) C dX2_fact_18 (by decide) ?_
        refine g_goto C dX2_fact_19 (tgt := 23) (by decide) ?_
        refine g_sub [0, 1, 2] rfl ?_
        exact wX2_fact_b23 hN C hr h

set_option maxHeartbeats 2000000 in
set_option maxRecDepth 20000 in
theorem kX2_fact {l : Launch} {D : va_G} {g : gT} {N : Nat} {ad ln : Nat → Nat} (hN : 183 ≤ N) {A A' : gM} {x1 : Int32} {x2 : Int32} {r : Int32} (h : mX2_fact A x1 x2 = some (A', r)) : gKi l yX2_fact cX2_fact 4 (some .int) (0) D g N ad ln A [gr 1, gi x1, gi x2] A' r := by
  refine g_meti (by decide) (Nat.le_of_ble_eq_true rfl) ?_
  intro p e s m args below meth c C hr
  refine g_sub [0, 1, 2] rfl ?_
  exact wX2_fact_b0 hN C hr h
def mX2_sizeOf_b15 (A : gM) (s0 : Int32) : Option (gM × Int32) :=
  some (A, s0)
def mX2_sizeOf_b0 (A : gM) (x1 : Int32) : Option (gM × Int32) :=
  if x1 = (-1) then
  mX2_sizeOf_b15 A 0
  else
  (mX2_fact A x1 5).bind fun q2 =>
  mX2_sizeOf_b15 q2.1 q2.2
def mX2_sizeOf (A : gM) (x1 : Int32) : Option (gM × Int32) := mX2_sizeOf_b0 A x1
set_option maxHeartbeats 2000000 in
set_option maxRecDepth 20000 in
theorem wX2_sizeOf_b15 (hN : 183 ≤ N) {A0 A' : gM} {r : Int32} (C : gC p R s m args meth c cX2_sizeOf RX2 2 D g (va_A (gw g ad ln A0 N) s.heap.size) 1) (hr : meth.sig.returnType = some .int)  {A : gM} {s0 : Int32} (h : mX2_sizeOf_b15 A s0 = some (A', r)) : gJ p l e R s m args below meth c (gEi below D g N ad ln A0 A' r args s) 2 D g (va_A (gw g ad ln A0 N) s.heap.size) N ad ln A [] 0 0 15 [gi s0] := by
  unfold mX2_sizeOf_b15 at h
  obtain ⟨rfl, rfl⟩ := Prod.mk.inj (Option.some.inj h)
  exact g_reti C hr dX2_sizeOf_15

set_option maxHeartbeats 2000000 in
set_option maxRecDepth 20000 in
theorem wX2_sizeOf_b0 (hN : 183 ≤ N) {A0 A' : gM} {r : Int32} (C : gC p R s m args meth c cX2_sizeOf RX2 2 D g (va_A (gw g ad ln A0 N) s.heap.size) 1) (hr : meth.sig.returnType = some .int)  {A : gM} {x1 : Int32} (h : mX2_sizeOf_b0 A x1 = some (A', r)) : gJ p l e R s m args below meth c (gEi below D g N ad ln A0 A' r args s) 2 D g (va_A (gw g ad ln A0 N) s.heap.size) N ad ln A [(0, gr 1), (1, gi x1)] 0 0 0 [] := by
  unfold mX2_sizeOf_b0 at h
  refine g_iload_n C 1 dX2_sizeOf_0 rfl ?_
  refine g_iconst (v := (-1)) C dX2_sizeOf_1 (by decide) ?_
  refine g_icmp_ne C dX2_sizeOf_2 (tgt := 9) (by decide) (fun c1 => ?_) (fun c1 => ?_)
  · have h := g_ff c1 h
    refine g_aload_n C 0 dX2_sizeOf_9 rfl ?_
    refine g_iload_n C 1 dX2_sizeOf_10 rfl ?_
    refine g_iconst (v := 5) C dX2_sizeOf_11 (by decide) ?_
    obtain ⟨q2, eq2, h⟩ := g_bd h
    refine g_calliV C 1 [gi x1, gi 5] (kX2_fact hN eq2) qs_X2_24 (by omega) (by omega) rfl rfl rfl rfl (Nat.le_of_ble_eq_true rfl) ⟨Nat.zero_le _, Nat.zero_le _⟩ dX2_sizeOf_12 ?_
    refine g_sub [] rfl ?_
    exact wX2_sizeOf_b15 hN C hr h
  · have h := g_tt c1 h
    refine g_iconst (v := 0) C dX2_sizeOf_5 (by decide) ?_
    refine g_goto C dX2_sizeOf_6 (tgt := 15) (by decide) ?_
    refine g_sub [] rfl ?_
    exact wX2_sizeOf_b15 hN C hr h

set_option maxHeartbeats 2000000 in
set_option maxRecDepth 20000 in
theorem kX2_sizeOf {l : Launch} {D : va_G} {g : gT} {N : Nat} {ad ln : Nat → Nat} (hN : 183 ≤ N) {A A' : gM} {x1 : Int32} {r : Int32} (h : mX2_sizeOf A x1 = some (A', r)) : gKi l yX2_sizeOf cX2_sizeOf 2 (some .int) (1) D g N ad ln A [gr 1, gi x1] A' r := by
  refine g_meti (by decide) (Nat.le_of_ble_eq_true rfl) ?_
  intro p e s m args below meth c C hr
  refine g_sub [0, 1] rfl ?_
  exact wX2_sizeOf_b0 hN C hr h
def mX2_sizeOver_b0 (A : gM) (x1 : Int32) (x2 : Int32) (x3 : Int32) : Option (gM × Int32) :=
  (mX2_sizeOf A x1).bind fun q1 =>
  (mX2_sizeOf q1.1 x2).bind fun q2 =>
  (mX2_sizeOf q2.1 x3).bind fun q3 =>
  some (q3.1, (((1 + q1.2) + q2.2) + q3.2))
def mX2_sizeOver (A : gM) (x1 : Int32) (x2 : Int32) (x3 : Int32) : Option (gM × Int32) := mX2_sizeOver_b0 A x1 x2 x3
set_option maxHeartbeats 2000000 in
set_option maxRecDepth 20000 in
theorem wX2_sizeOver_b0 (hN : 183 ≤ N) {A0 A' : gM} {r : Int32} (C : gC p R s m args meth c cX2_sizeOver RX2 4 D g (va_A (gw g ad ln A0 N) s.heap.size) 2) (hr : meth.sig.returnType = some .int)  {A : gM} {x1 : Int32} {x2 : Int32} {x3 : Int32} (h : mX2_sizeOver_b0 A x1 x2 x3 = some (A', r)) : gJ p l e R s m args below meth c (gEi below D g N ad ln A0 A' r args s) 4 D g (va_A (gw g ad ln A0 N) s.heap.size) N ad ln A [(0, gr 1), (1, gi x1), (2, gi x2), (3, gi x3)] 0 0 0 [] := by
  unfold mX2_sizeOver_b0 at h
  refine g_iconst (v := 1) C dX2_sizeOver_0 (by decide) ?_
  refine g_aload_n C 0 dX2_sizeOver_1 rfl ?_
  refine g_iload_n C 1 dX2_sizeOver_2 rfl ?_
  obtain ⟨q1, eq1, h⟩ := g_bd h
  refine g_calliV C 1 [gi x1] (kX2_sizeOf hN eq1) qs_X2_20 (by omega) (by omega) rfl rfl rfl rfl (Nat.le_of_ble_eq_true rfl) ⟨Nat.zero_le _, Nat.zero_le _⟩ dX2_sizeOver_3 ?_
  refine g_iadd C dX2_sizeOver_6 ?_
  refine g_aload_n C 0 dX2_sizeOver_7 rfl ?_
  refine g_iload_n C 2 dX2_sizeOver_8 rfl ?_
  obtain ⟨q2, eq2, h⟩ := g_bd h
  refine g_calliV C 1 [gi x2] (kX2_sizeOf hN eq2) qs_X2_20 (by omega) (by omega) rfl rfl rfl rfl (Nat.le_of_ble_eq_true rfl) ⟨Nat.zero_le _, Nat.zero_le _⟩ dX2_sizeOver_9 ?_
  refine g_iadd C dX2_sizeOver_12 ?_
  refine g_aload_n C 0 dX2_sizeOver_13 rfl ?_
  refine g_iload_n C 3 dX2_sizeOver_14 rfl ?_
  obtain ⟨q3, eq3, h⟩ := g_bd h
  refine g_calliV C 1 [gi x3] (kX2_sizeOf hN eq3) qs_X2_20 (by omega) (by omega) rfl rfl rfl rfl (Nat.le_of_ble_eq_true rfl) ⟨Nat.zero_le _, Nat.zero_le _⟩ dX2_sizeOver_15 ?_
  refine g_iadd C dX2_sizeOver_18 ?_
  obtain ⟨rfl, rfl⟩ := Prod.mk.inj (Option.some.inj h)
  exact g_reti C hr dX2_sizeOver_19

set_option maxHeartbeats 2000000 in
set_option maxRecDepth 20000 in
theorem kX2_sizeOver {l : Launch} {D : va_G} {g : gT} {N : Nat} {ad ln : Nat → Nat} (hN : 183 ≤ N) {A A' : gM} {x1 : Int32} {x2 : Int32} {x3 : Int32} {r : Int32} (h : mX2_sizeOver A x1 x2 x3 = some (A', r)) : gKi l yX2_sizeOver cX2_sizeOver 4 (some .int) (2) D g N ad ln A [gr 1, gi x1, gi x2, gi x3] A' r := by
  refine g_meti (by decide) (Nat.le_of_ble_eq_true rfl) ?_
  intro p e s m args below meth c C hr
  refine g_sub [0, 1, 2, 3] rfl ?_
  exact wX2_sizeOver_b0 hN C hr h
def mX2_depthOf_b16 (A : gM) (s0 : Int32) : Option (gM × Int32) :=
  some (A, s0)
def mX2_depthOf_b0 (A : gM) (x1 : Int32) : Option (gM × Int32) :=
  if x1 = (-1) then
  mX2_depthOf_b16 A 0
  else
  (mX2_fact A x1 6).bind fun q2 =>
  mX2_depthOf_b16 q2.1 q2.2
def mX2_depthOf (A : gM) (x1 : Int32) : Option (gM × Int32) := mX2_depthOf_b0 A x1
set_option maxHeartbeats 2000000 in
set_option maxRecDepth 20000 in
theorem wX2_depthOf_b16 (hN : 183 ≤ N) {A0 A' : gM} {r : Int32} (C : gC p R s m args meth c cX2_depthOf RX2 2 D g (va_A (gw g ad ln A0 N) s.heap.size) 1) (hr : meth.sig.returnType = some .int)  {A : gM} {s0 : Int32} (h : mX2_depthOf_b16 A s0 = some (A', r)) : gJ p l e R s m args below meth c (gEi below D g N ad ln A0 A' r args s) 2 D g (va_A (gw g ad ln A0 N) s.heap.size) N ad ln A [] 0 0 16 [gi s0] := by
  unfold mX2_depthOf_b16 at h
  obtain ⟨rfl, rfl⟩ := Prod.mk.inj (Option.some.inj h)
  exact g_reti C hr dX2_depthOf_16

set_option maxHeartbeats 2000000 in
set_option maxRecDepth 20000 in
theorem wX2_depthOf_b0 (hN : 183 ≤ N) {A0 A' : gM} {r : Int32} (C : gC p R s m args meth c cX2_depthOf RX2 2 D g (va_A (gw g ad ln A0 N) s.heap.size) 1) (hr : meth.sig.returnType = some .int)  {A : gM} {x1 : Int32} (h : mX2_depthOf_b0 A x1 = some (A', r)) : gJ p l e R s m args below meth c (gEi below D g N ad ln A0 A' r args s) 2 D g (va_A (gw g ad ln A0 N) s.heap.size) N ad ln A [(0, gr 1), (1, gi x1)] 0 0 0 [] := by
  unfold mX2_depthOf_b0 at h
  refine g_iload_n C 1 dX2_depthOf_0 rfl ?_
  refine g_iconst (v := (-1)) C dX2_depthOf_1 (by decide) ?_
  refine g_icmp_ne C dX2_depthOf_2 (tgt := 9) (by decide) (fun c1 => ?_) (fun c1 => ?_)
  · have h := g_ff c1 h
    refine g_aload_n C 0 dX2_depthOf_9 rfl ?_
    refine g_iload_n C 1 dX2_depthOf_10 rfl ?_
    refine g_bipush (v := 6) C dX2_depthOf_11 (by decide) ?_
    obtain ⟨q2, eq2, h⟩ := g_bd h
    refine g_calliV C 1 [gi x1, gi 6] (kX2_fact hN eq2) qs_X2_24 (by omega) (by omega) rfl rfl rfl rfl (Nat.le_of_ble_eq_true rfl) ⟨Nat.zero_le _, Nat.zero_le _⟩ dX2_depthOf_13 ?_
    refine g_sub [] rfl ?_
    exact wX2_depthOf_b16 hN C hr h
  · have h := g_tt c1 h
    refine g_iconst (v := 0) C dX2_depthOf_5 (by decide) ?_
    refine g_goto C dX2_depthOf_6 (tgt := 16) (by decide) ?_
    refine g_sub [] rfl ?_
    exact wX2_depthOf_b16 hN C hr h

set_option maxHeartbeats 2000000 in
set_option maxRecDepth 20000 in
theorem kX2_depthOf {l : Launch} {D : va_G} {g : gT} {N : Nat} {ad ln : Nat → Nat} (hN : 183 ≤ N) {A A' : gM} {x1 : Int32} {r : Int32} (h : mX2_depthOf A x1 = some (A', r)) : gKi l yX2_depthOf cX2_depthOf 2 (some .int) (1) D g N ad ln A [gr 1, gi x1] A' r := by
  refine g_meti (by decide) (Nat.le_of_ble_eq_true rfl) ?_
  intro p e s m args below meth c C hr
  refine g_sub [0, 1] rfl ?_
  exact wX2_depthOf_b0 hN C hr h
def mX2_append_b16 (A : gM) : Option (gM × Int32) :=
  some (A, (-1))
def mX2_append_b0 (A : gM) (x1 : Int32) (x2 : Int32) (x3 : Int32) (x4 : Int32) (x5 : Int32) : Option (gM × Int32) :=
  if (A 1 1) < 0 then
  mX2_append_b16 A
  else
  if (A 1 1) < 40 then
  if g_in (A 1 1) 40 = true then
  if g_in 0 7 = true then g_let (g_up A (3 + (A 1 1).toNatClampNeg) (0 : Int32).toNatClampNeg x1) fun A5 =>
  if g_in 1 7 = true then g_let (g_up A5 (3 + (A 1 1).toNatClampNeg) (1 : Int32).toNatClampNeg x3) fun A7 =>
  if g_in 2 7 = true then g_let (g_up A7 (3 + (A 1 1).toNatClampNeg) (2 : Int32).toNatClampNeg x4) fun A9 =>
  if g_in 3 7 = true then g_let (g_up A9 (3 + (A 1 1).toNatClampNeg) (3 : Int32).toNatClampNeg x5) fun A11 =>
  if g_in 4 7 = true then g_let (g_up A11 (3 + (A 1 1).toNatClampNeg) (4 : Int32).toNatClampNeg x2) fun A13 =>
  (mX2_sizeOver A13 x3 x4 x5).bind fun q14 =>
  if g_in 5 7 = true then g_let (g_up q14.1 (3 + (A 1 1).toNatClampNeg) (5 : Int32).toNatClampNeg q14.2) fun A16 =>
  (mX2_depthOf A16 x3).bind fun q17 =>
  (mX2_depthOf q17.1 x4).bind fun q18 =>
  (mX2_depthOf q18.1 x5).bind fun q19 =>
  if g_in 6 7 = true then g_let (g_up q19.1 (3 + (A 1 1).toNatClampNeg) (6 : Int32).toNatClampNeg (1 + (if q17.2 < (if q18.2 < q19.2 then q19.2 else q18.2) then (if q18.2 < q19.2 then q19.2 else q18.2) else q17.2))) fun A21 =>
  g_let (g_up A21 1 1 ((A21 1 1) + 1)) fun A22 =>
  some (A22, ((A22 1 1) - 1))
  else none
  else none
  else none
  else none
  else none
  else none
  else none
  else none
  else
  mX2_append_b16 A
def mX2_append (A : gM) (x1 : Int32) (x2 : Int32) (x3 : Int32) (x4 : Int32) (x5 : Int32) : Option (gM × Int32) := mX2_append_b0 A x1 x2 x3 x4 x5
set_option maxHeartbeats 2000000 in
set_option maxRecDepth 20000 in
theorem wX2_append_b16 (hN : 183 ≤ N) {A0 A' : gM} {r : Int32} (C : gC p R s m args meth c cX2_append RX2 7 D g (va_A (gw g ad ln A0 N) s.heap.size) 3) (hr : meth.sig.returnType = some .int)  {A : gM} (h : mX2_append_b16 A = some (A', r)) : gJ p l e R s m args below meth c (gEi below D g N ad ln A0 A' r args s) 7 D g (va_A (gw g ad ln A0 N) s.heap.size) N ad ln A [] 0 0 16 [] := by
  unfold mX2_append_b16 at h
  refine g_iconst (v := (-1)) C dX2_append_16 (by decide) ?_
  obtain ⟨rfl, rfl⟩ := Prod.mk.inj (Option.some.inj h)
  exact g_reti C hr dX2_append_17

set_option maxHeartbeats 2000000 in
set_option maxRecDepth 20000 in
theorem wX2_append_b0 (hN : 183 ≤ N) {A0 A' : gM} {r : Int32} (C : gC p R s m args meth c cX2_append RX2 7 D g (va_A (gw g ad ln A0 N) s.heap.size) 3) (hr : meth.sig.returnType = some .int)  {A : gM} {x1 : Int32} {x2 : Int32} {x3 : Int32} {x4 : Int32} {x5 : Int32} (h : mX2_append_b0 A x1 x2 x3 x4 x5 = some (A', r)) : gJ p l e R s m args below meth c (gEi below D g N ad ln A0 A' r args s) 7 D g (va_A (gw g ad ln A0 N) s.heap.size) N ad ln A [(0, gr 1), (1, gi x1), (2, gi x2), (3, gi x3), (4, gi x4), (5, gi x5)] 0 0 0 [] := by
  unfold mX2_append_b0 at h
  refine g_aload_n C 0 dX2_append_0 rfl ?_
  refine g_get (v := gi (A 1 1)) C 1 1 (by omega) rfl rfl gu_2 (by decide) qf_X2_16 rfl dX2_append_1 ?_
  refine g_if_lt C dX2_append_4 (tgt := 16) (by decide) (fun c1 => ?_) (fun c1 => ?_)
  · have h := g_tt c1 h
    refine g_sub [] rfl ?_
    exact wX2_append_b16 hN C hr h
  · have h := g_ff c1 h
    refine g_aload_n C 0 dX2_append_7 rfl ?_
    refine g_get (v := gi (A 1 1)) C 1 1 (by omega) rfl rfl gu_2 (by decide) qf_X2_16 rfl dX2_append_8 ?_
    refine g_bipush (v := 40) C dX2_append_11 (by decide) ?_
    refine g_icmp_lt C dX2_append_13 (tgt := 18) (by decide) (fun c2 => ?_) (fun c2 => ?_)
    · have h := g_tt c2 h
      refine g_aload_n C 0 dX2_append_18 rfl ?_
      refine g_get (v := gr 2) C 1 0 (by omega) rfl rfl gu_2 (by decide) qf_X2_11 rfl dX2_append_19 ?_
      refine g_aload_n C 0 dX2_append_22 rfl ?_
      refine g_get (v := gi (A 1 1)) C 1 1 (by omega) rfl rfl gu_2 (by decide) qf_X2_16 rfl dX2_append_23 ?_
      obtain ⟨hg3, h⟩ := g_gd h
      refine g_aald C 2 3 (by omega) rfl hg3 dX2_append_26 ?_
      refine g_astore C dX2_append_27 (by decide) rfl ?_
      refine g_aload C 0 dX2_append_29 rfl ?_
      refine g_iconst (v := 0) C dX2_append_31 (by decide) ?_
      refine g_iload_n C 2 dX2_append_32 rfl ?_
      obtain ⟨hg4, h⟩ := g_gd h
      obtain ⟨A5, eA5, h⟩ := g_lt h
      refine g_iast C (3 + (A 1 1).toNatClampNeg) (g_row3 (ln := ln) hN hg3).1 (g_row3 (ln := ln) hN hg3).2.1 (g_row3 (ln := ln) hN hg3).2.2 hg4 eA5 dX2_append_33 ?_
      refine g_aload C 0 dX2_append_34 rfl ?_
      refine g_iconst (v := 1) C dX2_append_36 (by decide) ?_
      refine g_iload_n C 4 dX2_append_37 rfl ?_
      obtain ⟨hg6, h⟩ := g_gd h
      obtain ⟨A7, eA7, h⟩ := g_lt h
      refine g_iast C (3 + (A 1 1).toNatClampNeg) (g_row3 (ln := ln) hN hg3).1 (g_row3 (ln := ln) hN hg3).2.1 (g_row3 (ln := ln) hN hg3).2.2 hg6 eA7 dX2_append_38 ?_
      refine g_aload C 0 dX2_append_39 rfl ?_
      refine g_iconst (v := 2) C dX2_append_41 (by decide) ?_
      refine g_iload C 5 dX2_append_42 rfl ?_
      obtain ⟨hg8, h⟩ := g_gd h
      obtain ⟨A9, eA9, h⟩ := g_lt h
      refine g_iast C (3 + (A 1 1).toNatClampNeg) (g_row3 (ln := ln) hN hg3).1 (g_row3 (ln := ln) hN hg3).2.1 (g_row3 (ln := ln) hN hg3).2.2 hg8 eA9 dX2_append_44 ?_
      refine g_aload C 0 dX2_append_45 rfl ?_
      refine g_iconst (v := 3) C dX2_append_47 (by decide) ?_
      refine g_iload C 6 dX2_append_48 rfl ?_
      obtain ⟨hg10, h⟩ := g_gd h
      obtain ⟨A11, eA11, h⟩ := g_lt h
      refine g_iast C (3 + (A 1 1).toNatClampNeg) (g_row3 (ln := ln) hN hg3).1 (g_row3 (ln := ln) hN hg3).2.1 (g_row3 (ln := ln) hN hg3).2.2 hg10 eA11 dX2_append_50 ?_
      refine g_aload C 0 dX2_append_51 rfl ?_
      refine g_iconst (v := 4) C dX2_append_53 (by decide) ?_
      refine g_iload_n C 3 dX2_append_54 rfl ?_
      obtain ⟨hg12, h⟩ := g_gd h
      obtain ⟨A13, eA13, h⟩ := g_lt h
      refine g_iast C (3 + (A 1 1).toNatClampNeg) (g_row3 (ln := ln) hN hg3).1 (g_row3 (ln := ln) hN hg3).2.1 (g_row3 (ln := ln) hN hg3).2.2 hg12 eA13 dX2_append_55 ?_
      refine g_aload C 0 dX2_append_56 rfl ?_
      refine g_iconst (v := 5) C dX2_append_58 (by decide) ?_
      refine g_aload_n C 1 dX2_append_59 rfl ?_
      refine g_iload_n C 4 dX2_append_60 rfl ?_
      refine g_iload C 5 dX2_append_61 rfl ?_
      refine g_iload C 6 dX2_append_63 rfl ?_
      obtain ⟨q14, eq14, h⟩ := g_bd h
      refine g_calliV C 1 [gi x3, gi x4, gi x5] (kX2_sizeOver hN eq14) qs_X2_28 (by omega) (by omega) rfl rfl rfl rfl (Nat.le_of_ble_eq_true rfl) ⟨Nat.zero_le _, Nat.zero_le _⟩ dX2_append_65 ?_
      obtain ⟨hg15, h⟩ := g_gd h
      obtain ⟨A16, eA16, h⟩ := g_lt h
      refine g_iast C (3 + (A 1 1).toNatClampNeg) (g_row3 (ln := ln) hN hg3).1 (g_row3 (ln := ln) hN hg3).2.1 (g_row3 (ln := ln) hN hg3).2.2 hg15 eA16 dX2_append_68 ?_
      refine g_aload C 0 dX2_append_69 rfl ?_
      refine g_bipush (v := 6) C dX2_append_71 (by decide) ?_
      refine g_iconst (v := 1) C dX2_append_73 (by decide) ?_
      refine g_aload_n C 1 dX2_append_74 rfl ?_
      refine g_iload_n C 4 dX2_append_75 rfl ?_
      obtain ⟨q17, eq17, h⟩ := g_bd h
      refine g_calliV C 1 [gi x3] (kX2_depthOf hN eq17) qs_X2_32 (by omega) (by omega) rfl rfl rfl rfl (Nat.le_of_ble_eq_true rfl) ⟨Nat.zero_le _, Nat.zero_le _⟩ dX2_append_76 ?_
      refine g_aload_n C 1 dX2_append_79 rfl ?_
      refine g_iload C 5 dX2_append_80 rfl ?_
      obtain ⟨q18, eq18, h⟩ := g_bd h
      refine g_calliV C 1 [gi x4] (kX2_depthOf hN eq18) qs_X2_32 (by omega) (by omega) rfl rfl rfl rfl (Nat.le_of_ble_eq_true rfl) ⟨Nat.zero_le _, Nat.zero_le _⟩ dX2_append_82 ?_
      refine g_aload_n C 1 dX2_append_85 rfl ?_
      refine g_iload C 6 dX2_append_86 rfl ?_
      obtain ⟨q19, eq19, h⟩ := g_bd h
      refine g_calliV C 1 [gi x5] (kX2_depthOf hN eq19) qs_X2_32 (by omega) (by omega) rfl rfl rfl rfl (Nat.le_of_ble_eq_true rfl) ⟨Nat.zero_le _, Nat.zero_le _⟩ dX2_append_88 ?_
      refine g_mmax C qm_X2_35 (by decide) (Nat.le_of_ble_eq_true rfl) ⟨Nat.zero_le _, Nat.zero_le _⟩ dX2_append_91 ?_
      refine g_mmax C qm_X2_35 (by decide) (Nat.le_of_ble_eq_true rfl) ⟨Nat.zero_le _, Nat.zero_le _⟩ dX2_append_94 ?_
      refine g_iadd C dX2_append_97 ?_
      obtain ⟨hg20, h⟩ := g_gd h
      obtain ⟨A21, eA21, h⟩ := g_lt h
      refine g_iast C (3 + (A 1 1).toNatClampNeg) (g_row3 (ln := ln) hN hg3).1 (g_row3 (ln := ln) hN hg3).2.1 (g_row3 (ln := ln) hN hg3).2.2 hg20 eA21 dX2_append_98 ?_
      refine g_aload_n C 1 dX2_append_99 rfl ?_
      refine g_dup_r C dX2_append_100 ?_
      refine g_get (v := gi (A21 1 1)) C 1 1 (by omega) rfl rfl gu_2 (by decide) qf_X2_16 rfl dX2_append_101 ?_
      refine g_iconst (v := 1) C dX2_append_104 (by decide) ?_
      refine g_iadd C dX2_append_105 ?_
      obtain ⟨A22, eA22, h⟩ := g_lt h
      refine g_put C 1 1 tyX2 tyX2_ok nmX2 (by omega) rfl rfl gu_2 (by decide) qf_X2_16 rfl (by decide +kernel) (Nat.le_of_ble_eq_true rfl) rfl eA22 dX2_append_106 ?_
      refine g_aload_n C 1 dX2_append_109 rfl ?_
      refine g_get (v := gi (A22 1 1)) C 1 1 (by omega) rfl rfl gu_2 (by decide) qf_X2_16 rfl dX2_append_110 ?_
      refine g_iconst (v := 1) C dX2_append_113 (by decide) ?_
      refine g_isub C dX2_append_114 ?_
      obtain ⟨rfl, rfl⟩ := Prod.mk.inj (Option.some.inj h)
      exact g_reti C hr dX2_append_115
    · have h := g_ff c2 h
      refine g_sub [] rfl ?_
      exact wX2_append_b16 hN C hr h

set_option maxHeartbeats 2000000 in
set_option maxRecDepth 20000 in
theorem kX2_append {l : Launch} {D : va_G} {g : gT} {N : Nat} {ad ln : Nat → Nat} (hN : 183 ≤ N) {A A' : gM} {x1 : Int32} {x2 : Int32} {x3 : Int32} {x4 : Int32} {x5 : Int32} {r : Int32} (h : mX2_append A x1 x2 x3 x4 x5 = some (A', r)) : gKi l yX2_append cX2_append 7 (some .int) (3) D g N ad ln A [gr 1, gi x1, gi x2, gi x3, gi x4, gi x5] A' r := by
  refine g_meti (by decide) (Nat.le_of_ble_eq_true rfl) ?_
  intro p e s m args below meth c C hr
  refine g_sub [0, 1, 2, 3, 4, 5] rfl ?_
  exact wX2_append_b0 hN C hr h
def mX2_dropLast_b17 (A : gM) : Option (gM) :=
  some A
def mX2_dropLast_b0 (A : gM) : Option (gM) :=
  if (A 1 1) ≤ 0 then
  mX2_dropLast_b17 A
  else
  g_let (g_up A 1 1 ((A 1 1) - 1)) fun A2 =>
  mX2_dropLast_b17 A2
def mX2_dropLast (A : gM) : Option (gM) := mX2_dropLast_b0 A
set_option maxHeartbeats 2000000 in
set_option maxRecDepth 20000 in
theorem wX2_dropLast_b17 (hN : 183 ≤ N) {A0 A' : gM} (C : gC p R s m args meth c cX2_dropLast RX2 1 D g (va_A (gw g ad ln A0 N) s.heap.size) 0) (hr : meth.sig.returnType = none)  {A : gM} (h : mX2_dropLast_b17 A = some A') : gJ p l e R s m args below meth c (gEv below D g N ad ln A0 A' args s) 1 D g (va_A (gw g ad ln A0 N) s.heap.size) N ad ln A [] 0 0 17 [] := by
  unfold mX2_dropLast_b17 at h
  obtain rfl := Option.some.inj h
  exact g_retv C hr dX2_dropLast_17

set_option maxHeartbeats 2000000 in
set_option maxRecDepth 20000 in
theorem wX2_dropLast_b0 (hN : 183 ≤ N) {A0 A' : gM} (C : gC p R s m args meth c cX2_dropLast RX2 1 D g (va_A (gw g ad ln A0 N) s.heap.size) 0) (hr : meth.sig.returnType = none)  {A : gM} (h : mX2_dropLast_b0 A = some A') : gJ p l e R s m args below meth c (gEv below D g N ad ln A0 A' args s) 1 D g (va_A (gw g ad ln A0 N) s.heap.size) N ad ln A [(0, gr 1)] 0 0 0 [] := by
  unfold mX2_dropLast_b0 at h
  refine g_aload_n C 0 dX2_dropLast_0 rfl ?_
  refine g_get (v := gi (A 1 1)) C 1 1 (by omega) rfl rfl gu_2 (by decide) qf_X2_16 rfl dX2_dropLast_1 ?_
  refine g_if_le C dX2_dropLast_4 (tgt := 17) (by decide) (fun c1 => ?_) (fun c1 => ?_)
  · have h := g_tt c1 h
    refine g_sub [] rfl ?_
    exact wX2_dropLast_b17 hN C hr h
  · have h := g_ff c1 h
    refine g_aload_n C 0 dX2_dropLast_7 rfl ?_
    refine g_dup_r C dX2_dropLast_8 ?_
    refine g_get (v := gi (A 1 1)) C 1 1 (by omega) rfl rfl gu_2 (by decide) qf_X2_16 rfl dX2_dropLast_9 ?_
    refine g_iconst (v := 1) C dX2_dropLast_12 (by decide) ?_
    refine g_isub C dX2_dropLast_13 ?_
    obtain ⟨A2, eA2, h⟩ := g_lt h
    refine g_put C 1 1 tyX2 tyX2_ok nmX2 (by omega) rfl rfl gu_2 (by decide) qf_X2_16 rfl (by decide +kernel) (Nat.le_of_ble_eq_true rfl) rfl eA2 dX2_dropLast_14 ?_
    refine g_sub [] rfl ?_
    exact wX2_dropLast_b17 hN C hr h

set_option maxHeartbeats 2000000 in
set_option maxRecDepth 20000 in
theorem kX2_dropLast {l : Launch} {D : va_G} {g : gT} {N : Nat} {ad ln : Nat → Nat} (hN : 183 ≤ N) {A A' : gM} (h : mX2_dropLast A = some A') : gKv l yX2_dropLast cX2_dropLast 1 (none) (0) D g N ad ln A [gr 1] A' := by
  refine g_metv (by decide) (Nat.le_of_ble_eq_true rfl) ?_
  intro p e s m args below meth c C hr
  refine g_sub [0] rfl ?_
  exact wX2_dropLast_b0 hN C hr h
end T42
