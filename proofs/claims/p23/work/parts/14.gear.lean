theorem qf_X5_10 : Cond.fieldLink RX5 10 (TX5 0).1 (TX5 0).2.1 (TX5 0).2.2.1 ∈ gtb := g_tb (List.mem_of_getElem? (i := 172) (by decide +kernel)) (by decide +kernel)
theorem qf_X5_19 : Cond.fieldLink RX5 19 (TX5 1).1 (TX5 1).2.1 (TX5 1).2.2.1 ∈ gtb := g_tb (List.mem_of_getElem? (i := 173) (by decide +kernel)) (by decide +kernel)
theorem qf_X5_26 : Cond.fieldLink RX5 26 (TX5 2).1 (TX5 2).2.1 (TX5 2).2.2.1 ∈ gtb := g_tb (List.mem_of_getElem? (i := 174) (by decide +kernel)) (by decide +kernel)
theorem qs_X5_102 : g_site RX5 RX0 102 yX0_faultOfTurning cX0_faultOfTurning 8 (some .int) 3 := ⟨g_tb (List.mem_of_getElem? (i := 593) (by decide +kernel)) (by decide +kernel), g_tb (List.mem_of_getElem? (i := 594) (by decide +kernel)) (by decide +kernel), g_tb (List.mem_of_getElem? (i := 595) (by decide +kernel)) (by decide +kernel), g_tb (List.mem_of_getElem? (i := 36) (by decide +kernel)) (by decide +kernel), g_tb (List.mem_of_getElem? (i := 596) (by decide +kernel)) (by decide +kernel), ⟨rfl, by decide, by decide, by decide +kernel⟩, by decide⟩
theorem qs_X5_30 : g_site RX5 RX5 30 yX5_needBetween cX5_needBetween 4 (none) 3 := ⟨g_tb (List.mem_of_getElem? (i := 186) (by decide +kernel)) (by decide +kernel), g_tb (List.mem_of_getElem? (i := 188) (by decide +kernel)) (by decide +kernel), g_tb (List.mem_of_getElem? (i := 0) (by decide +kernel)) (by decide +kernel), g_tb (List.mem_of_getElem? (i := 33) (by decide +kernel)) (by decide +kernel), g_tb (List.mem_of_getElem? (i := 189) (by decide +kernel)) (by decide +kernel), ⟨rfl, by decide, by decide, by decide +kernel⟩, by decide⟩
theorem qs_X5_34 : g_site RX5 RX5 34 yX5_add cX5_add 8 (some .int) 5 := ⟨g_tb (List.mem_of_getElem? (i := 253) (by decide +kernel)) (by decide +kernel), g_tb (List.mem_of_getElem? (i := 255) (by decide +kernel)) (by decide +kernel), g_tb (List.mem_of_getElem? (i := 2) (by decide +kernel)) (by decide +kernel), g_tb (List.mem_of_getElem? (i := 33) (by decide +kernel)) (by decide +kernel), g_tb (List.mem_of_getElem? (i := 256) (by decide +kernel)) (by decide +kernel), ⟨rfl, by decide, by decide, by decide +kernel⟩, by decide⟩
theorem qs_X5_38 : g_site RX5 RX5 38 yX5_needPart cX5_needPart 2 (none) 1 := ⟨g_tb (List.mem_of_getElem? (i := 495) (by decide +kernel)) (by decide +kernel), g_tb (List.mem_of_getElem? (i := 497) (by decide +kernel)) (by decide +kernel), g_tb (List.mem_of_getElem? (i := 26) (by decide +kernel)) (by decide +kernel), g_tb (List.mem_of_getElem? (i := 33) (by decide +kernel)) (by decide +kernel), g_tb (List.mem_of_getElem? (i := 498) (by decide +kernel)) (by decide +kernel), ⟨rfl, by decide, by decide, by decide +kernel⟩, by decide⟩
theorem qs_X5_42 : g_site RX5 RX2 42 yX2_made cX2_made 1 (some .int) 0 := ⟨g_tb (List.mem_of_getElem? (i := 269) (by decide +kernel)) (by decide +kernel), g_tb (List.mem_of_getElem? (i := 270) (by decide +kernel)) (by decide +kernel), g_tb (List.mem_of_getElem? (i := 271) (by decide +kernel)) (by decide +kernel), g_tb (List.mem_of_getElem? (i := 34) (by decide +kernel)) (by decide +kernel), g_tb (List.mem_of_getElem? (i := 272) (by decide +kernel)) (by decide +kernel), ⟨rfl, by decide, by decide, by decide +kernel⟩, by decide⟩
theorem qs_X5_49 : g_site RX5 RX2 49 yX2_dropLast cX2_dropLast 1 (none) 0 := ⟨g_tb (List.mem_of_getElem? (i := 542) (by decide +kernel)) (by decide +kernel), g_tb (List.mem_of_getElem? (i := 543) (by decide +kernel)) (by decide +kernel), g_tb (List.mem_of_getElem? (i := 544) (by decide +kernel)) (by decide +kernel), g_tb (List.mem_of_getElem? (i := 34) (by decide +kernel)) (by decide +kernel), g_tb (List.mem_of_getElem? (i := 545) (by decide +kernel)) (by decide +kernel), ⟨rfl, by decide, by decide, by decide +kernel⟩, by decide⟩
theorem qs_X5_52 : g_site RX5 RX5 52 yX5_needPlace cX5_needPlace 3 (none) 2 := ⟨g_tb (List.mem_of_getElem? (i := 499) (by decide +kernel)) (by decide +kernel), g_tb (List.mem_of_getElem? (i := 501) (by decide +kernel)) (by decide +kernel), g_tb (List.mem_of_getElem? (i := 27) (by decide +kernel)) (by decide +kernel), g_tb (List.mem_of_getElem? (i := 33) (by decide +kernel)) (by decide +kernel), g_tb (List.mem_of_getElem? (i := 502) (by decide +kernel)) (by decide +kernel), ⟨rfl, by decide, by decide, by decide +kernel⟩, by decide⟩
theorem qs_X5_56 : g_site RX5 RX2 56 yX2_fact cX2_fact 4 (some .int) 2 := ⟨g_tb (List.mem_of_getElem? (i := 550) (by decide +kernel)) (by decide +kernel), g_tb (List.mem_of_getElem? (i := 266) (by decide +kernel)) (by decide +kernel), g_tb (List.mem_of_getElem? (i := 267) (by decide +kernel)) (by decide +kernel), g_tb (List.mem_of_getElem? (i := 34) (by decide +kernel)) (by decide +kernel), g_tb (List.mem_of_getElem? (i := 268) (by decide +kernel)) (by decide +kernel), ⟨rfl, by decide, by decide, by decide +kernel⟩, by decide⟩
theorem qs_X5_60 : g_site RX5 RX3 60 yX3_fact cX3_fact 4 (some .int) 2 := ⟨g_tb (List.mem_of_getElem? (i := 555) (by decide +kernel)) (by decide +kernel), g_tb (List.mem_of_getElem? (i := 556) (by decide +kernel)) (by decide +kernel), g_tb (List.mem_of_getElem? (i := 557) (by decide +kernel)) (by decide +kernel), g_tb (List.mem_of_getElem? (i := 35) (by decide +kernel)) (by decide +kernel), g_tb (List.mem_of_getElem? (i := 558) (by decide +kernel)) (by decide +kernel), ⟨rfl, by decide, by decide, by decide +kernel⟩, by decide⟩
theorem qs_X5_61 : g_site RX5 RX3 61 yX3_codeAt cX3_codeAt 4 (some .int) 2 := ⟨g_tb (List.mem_of_getElem? (i := 563) (by decide +kernel)) (by decide +kernel), g_tb (List.mem_of_getElem? (i := 469) (by decide +kernel)) (by decide +kernel), g_tb (List.mem_of_getElem? (i := 470) (by decide +kernel)) (by decide +kernel), g_tb (List.mem_of_getElem? (i := 35) (by decide +kernel)) (by decide +kernel), g_tb (List.mem_of_getElem? (i := 471) (by decide +kernel)) (by decide +kernel), ⟨rfl, by decide, by decide, by decide +kernel⟩, by decide⟩
theorem qs_X5_64 : g_site RX5 RX5 64 yX5_counted cX5_counted 4 (some .int) 1 := ⟨g_tb (List.mem_of_getElem? (i := 568) (by decide +kernel)) (by decide +kernel), g_tb (List.mem_of_getElem? (i := 570) (by decide +kernel)) (by decide +kernel), g_tb (List.mem_of_getElem? (i := 28) (by decide +kernel)) (by decide +kernel), g_tb (List.mem_of_getElem? (i := 33) (by decide +kernel)) (by decide +kernel), g_tb (List.mem_of_getElem? (i := 571) (by decide +kernel)) (by decide +kernel), ⟨rfl, by decide, by decide, by decide +kernel⟩, by decide⟩
theorem qs_X5_68 : g_site RX5 RX5 68 yX5_bothTyped cX5_bothTyped 3 (some .boolean) 2 := ⟨g_tb (List.mem_of_getElem? (i := 576) (by decide +kernel)) (by decide +kernel), g_tb (List.mem_of_getElem? (i := 578) (by decide +kernel)) (by decide +kernel), g_tb (List.mem_of_getElem? (i := 29) (by decide +kernel)) (by decide +kernel), g_tb (List.mem_of_getElem? (i := 33) (by decide +kernel)) (by decide +kernel), g_tb (List.mem_of_getElem? (i := 579) (by decide +kernel)) (by decide +kernel), ⟨rfl, by decide, by decide, by decide +kernel⟩, by decide⟩
theorem qs_X5_72 : g_site RX5 RX3 72 yX3_alike cX3_alike 5 (some .boolean) 2 := ⟨g_tb (List.mem_of_getElem? (i := 580) (by decide +kernel)) (by decide +kernel), g_tb (List.mem_of_getElem? (i := 581) (by decide +kernel)) (by decide +kernel), g_tb (List.mem_of_getElem? (i := 582) (by decide +kernel)) (by decide +kernel), g_tb (List.mem_of_getElem? (i := 35) (by decide +kernel)) (by decide +kernel), g_tb (List.mem_of_getElem? (i := 583) (by decide +kernel)) (by decide +kernel), ⟨rfl, by decide, by decide, by decide +kernel⟩, by decide⟩
theorem qs_X5_78 : g_site RX5 RX5 78 yX5_faultOfTurning cX5_faultOfTurning 4 (some .int) 2 := ⟨g_tb (List.mem_of_getElem? (i := 589) (by decide +kernel)) (by decide +kernel), g_tb (List.mem_of_getElem? (i := 591) (by decide +kernel)) (by decide +kernel), g_tb (List.mem_of_getElem? (i := 30) (by decide +kernel)) (by decide +kernel), g_tb (List.mem_of_getElem? (i := 33) (by decide +kernel)) (by decide +kernel), g_tb (List.mem_of_getElem? (i := 592) (by decide +kernel)) (by decide +kernel), ⟨rfl, by decide, by decide, by decide +kernel⟩, by decide⟩
theorem qs_X5_91 : g_site RX5 RX2 91 yX2_sizeOver cX2_sizeOver 4 (some .int) 3 := ⟨g_tb (List.mem_of_getElem? (i := 257) (by decide +kernel)) (by decide +kernel), g_tb (List.mem_of_getElem? (i := 258) (by decide +kernel)) (by decide +kernel), g_tb (List.mem_of_getElem? (i := 259) (by decide +kernel)) (by decide +kernel), g_tb (List.mem_of_getElem? (i := 34) (by decide +kernel)) (by decide +kernel), g_tb (List.mem_of_getElem? (i := 260) (by decide +kernel)) (by decide +kernel), ⟨rfl, by decide, by decide, by decide +kernel⟩, by decide⟩
theorem qs_X5_95 : g_site RX5 RX2 95 yX2_append cX2_append 7 (some .int) 5 := ⟨g_tb (List.mem_of_getElem? (i := 288) (by decide +kernel)) (by decide +kernel), g_tb (List.mem_of_getElem? (i := 289) (by decide +kernel)) (by decide +kernel), g_tb (List.mem_of_getElem? (i := 290) (by decide +kernel)) (by decide +kernel), g_tb (List.mem_of_getElem? (i := 34) (by decide +kernel)) (by decide +kernel), g_tb (List.mem_of_getElem? (i := 291) (by decide +kernel)) (by decide +kernel), ⟨rfl, by decide, by decide, by decide +kernel⟩, by decide⟩
theorem qs_X5_98 : g_site RX5 RX0 98 yX0_settle cX0_settle 5 (none) 3 := ⟨g_tb (List.mem_of_getElem? (i := 300) (by decide +kernel)) (by decide +kernel), g_tb (List.mem_of_getElem? (i := 301) (by decide +kernel)) (by decide +kernel), g_tb (List.mem_of_getElem? (i := 302) (by decide +kernel)) (by decide +kernel), g_tb (List.mem_of_getElem? (i := 36) (by decide +kernel)) (by decide +kernel), g_tb (List.mem_of_getElem? (i := 303) (by decide +kernel)) (by decide +kernel), ⟨rfl, by decide, by decide, by decide +kernel⟩, by decide⟩
theorem qtk_X5_46 : Cond.classLink RX5 46 (g_xn 2) ∈ gtb := g_tb (List.mem_of_getElem? (i := 273) (by decide +kernel)) (by decide +kernel)
theorem qtg_X5_46 : ∀ w ∈ (vx_at0 RX5 48 (g_xn 2) ["java/lang/RuntimeException", "java/lang/Exception"]).filter goodWord, w ∈ gtb := by decide +kernel
theorem qtn_X5_46 : ∀ w ∈ (vx_at0 RX5 48 (g_xn 2) ["java/lang/RuntimeException", "java/lang/Exception"]).filter (fun w => !goodWord w), w ∈ gxw := by decide +kernel
theorem qto_X5_46 : ∀ w ∈ Cond.classLink RX5 46 (g_xn 2) :: Cond.initialized (g_xn 2) :: vx_at0 RX5 48 (g_xn 2) ["java/lang/RuntimeException", "java/lang/Exception"], vx_ot w = true := by decide +kernel
theorem qti_2 : Cond.initialized (g_xn 2) ∈ gtb := g_tb (List.mem_of_getElem? (i := 44) (by decide +kernel)) (by decide +kernel)
theorem qtk_X5_85 : Cond.classLink RX5 85 (g_xn 0) ∈ gtb := g_tb (List.mem_of_getElem? (i := 503) (by decide +kernel)) (by decide +kernel)
theorem qtg_X5_85 : ∀ w ∈ (vx_at0 RX5 87 (g_xn 0) ["java/lang/RuntimeException", "java/lang/Exception"]).filter goodWord, w ∈ gtb := by decide +kernel
theorem qtn_X5_85 : ∀ w ∈ (vx_at0 RX5 87 (g_xn 0) ["java/lang/RuntimeException", "java/lang/Exception"]).filter (fun w => !goodWord w), w ∈ gxw := by decide +kernel
theorem qto_X5_85 : ∀ w ∈ Cond.classLink RX5 85 (g_xn 0) :: Cond.initialized (g_xn 0) :: vx_at0 RX5 87 (g_xn 0) ["java/lang/RuntimeException", "java/lang/Exception"], vx_ot w = true := by decide +kernel
theorem qti_0 : Cond.initialized (g_xn 0) ∈ gtb := g_tb (List.mem_of_getElem? (i := 45) (by decide +kernel)) (by decide +kernel)
theorem qtk_X5_88 : Cond.classLink RX5 88 (g_xn 1) ∈ gtb := g_tb (List.mem_of_getElem? (i := 190) (by decide +kernel)) (by decide +kernel)
theorem qtg_X5_88 : ∀ w ∈ (vx_at0 RX5 90 (g_xn 1) ["java/lang/RuntimeException", "java/lang/Exception"]).filter goodWord, w ∈ gtb := by decide +kernel
theorem qtn_X5_88 : ∀ w ∈ (vx_at0 RX5 90 (g_xn 1) ["java/lang/RuntimeException", "java/lang/Exception"]).filter (fun w => !goodWord w), w ∈ gxw := by decide +kernel
theorem qto_X5_88 : ∀ w ∈ Cond.classLink RX5 88 (g_xn 1) :: Cond.initialized (g_xn 1) :: vx_at0 RX5 90 (g_xn 1) ["java/lang/RuntimeException", "java/lang/Exception"], vx_ot w = true := by decide +kernel
theorem qti_1 : Cond.initialized (g_xn 1) ∈ gtb := g_tb (List.mem_of_getElem? (i := 43) (by decide +kernel)) (by decide +kernel)
theorem gu_5 : ∀ w ∈ wsX50, w ∈ gtb := by decide +kernel
theorem dX5_counted_0 : decode cX5_counted 0 = .ok (.iload_n 1, 1) := by decide +kernel
theorem dX5_counted_1 : decode cX5_counted 1 = .ok (.ifCond .ne 11, 3) := by decide +kernel
theorem dX5_counted_4 : decode cX5_counted 4 = .ok (.aload_n 0, 1) := by decide +kernel
theorem dX5_counted_5 : decode cX5_counted 5 = .ok (.getfield 10, 3) := by decide +kernel
theorem dX5_counted_8 : decode cX5_counted 8 = .ok (.invokevirtual 42, 3) := by decide +kernel
theorem dX5_counted_11 : decode cX5_counted 11 = .ok (.ireturn, 1) := by decide +kernel
theorem dX5_counted_12 : decode cX5_counted 12 = .ok (.iconst 0, 1) := by decide +kernel
theorem dX5_counted_13 : decode cX5_counted 13 = .ok (.istore_n 2, 1) := by decide +kernel
theorem dX5_counted_14 : decode cX5_counted 14 = .ok (.iconst 0, 1) := by decide +kernel
theorem dX5_counted_15 : decode cX5_counted 15 = .ok (.istore_n 3, 1) := by decide +kernel
theorem dX5_counted_16 : decode cX5_counted 16 = .ok (.iload_n 3, 1) := by decide +kernel
theorem dX5_counted_17 : decode cX5_counted 17 = .ok (.aload_n 0, 1) := by decide +kernel
theorem dX5_counted_18 : decode cX5_counted 18 = .ok (.getfield 10, 3) := by decide +kernel
theorem dX5_counted_21 : decode cX5_counted 21 = .ok (.invokevirtual 42, 3) := by decide +kernel
theorem dX5_counted_24 : decode cX5_counted 24 = .ok (.if_icmp .ge 27, 3) := by decide +kernel
theorem dX5_counted_27 : decode cX5_counted 27 = .ok (.aload_n 0, 1) := by decide +kernel
theorem dX5_counted_28 : decode cX5_counted 28 = .ok (.getfield 19, 3) := by decide +kernel
theorem dX5_counted_31 : decode cX5_counted 31 = .ok (.iload_n 3, 1) := by decide +kernel
theorem dX5_counted_32 : decode cX5_counted 32 = .ok (.iconst 0, 1) := by decide +kernel
theorem dX5_counted_33 : decode cX5_counted 33 = .ok (.invokevirtual 60, 3) := by decide +kernel
theorem dX5_counted_36 : decode cX5_counted 36 = .ok (.iload_n 1, 1) := by decide +kernel
theorem dX5_counted_37 : decode cX5_counted 37 = .ok (.iconst 1, 1) := by decide +kernel
theorem dX5_counted_38 : decode cX5_counted 38 = .ok (.isub, 1) := by decide +kernel
theorem dX5_counted_39 : decode cX5_counted 39 = .ok (.if_icmp .ne 6, 3) := by decide +kernel
theorem dX5_counted_42 : decode cX5_counted 42 = .ok (.iinc 2 1, 3) := by decide +kernel
theorem dX5_counted_45 : decode cX5_counted 45 = .ok (.iinc 3 1, 3) := by decide +kernel
theorem dX5_counted_48 : decode cX5_counted 48 = .ok (.goto (-32), 3) := by decide +kernel
theorem dX5_counted_51 : decode cX5_counted 51 = .ok (.iload_n 2, 1) := by decide +kernel
theorem dX5_counted_52 : decode cX5_counted 52 = .ok (.ireturn, 1) := by decide +kernel
theorem dX5_bothTyped_0 : decode cX5_bothTyped 0 = .ok (.aload_n 0, 1) := by decide +kernel
theorem dX5_bothTyped_1 : decode cX5_bothTyped 1 = .ok (.getfield 19, 3) := by decide +kernel
theorem dX5_bothTyped_4 : decode cX5_bothTyped 4 = .ok (.iload_n 1, 1) := by decide +kernel
theorem dX5_bothTyped_5 : decode cX5_bothTyped 5 = .ok (.iconst 0, 1) := by decide +kernel
theorem dX5_bothTyped_6 : decode cX5_bothTyped 6 = .ok (.invokevirtual 60, 3) := by decide +kernel
theorem dX5_bothTyped_9 : decode cX5_bothTyped 9 = .ok (.ifCond .ne 19, 3) := by decide +kernel
theorem dX5_bothTyped_12 : decode cX5_bothTyped 12 = .ok (.aload_n 0, 1) := by decide +kernel
theorem dX5_bothTyped_13 : decode cX5_bothTyped 13 = .ok (.getfield 19, 3) := by decide +kernel
theorem dX5_bothTyped_16 : decode cX5_bothTyped 16 = .ok (.iload_n 2, 1) := by decide +kernel
theorem dX5_bothTyped_17 : decode cX5_bothTyped 17 = .ok (.iconst 0, 1) := by decide +kernel
theorem dX5_bothTyped_18 : decode cX5_bothTyped 18 = .ok (.invokevirtual 60, 3) := by decide +kernel
theorem dX5_bothTyped_21 : decode cX5_bothTyped 21 = .ok (.ifCond .ne 7, 3) := by decide +kernel
theorem dX5_bothTyped_24 : decode cX5_bothTyped 24 = .ok (.iconst 1, 1) := by decide +kernel
theorem dX5_bothTyped_25 : decode cX5_bothTyped 25 = .ok (.goto 4, 3) := by decide +kernel
theorem dX5_bothTyped_28 : decode cX5_bothTyped 28 = .ok (.iconst 0, 1) := by decide +kernel
theorem dX5_bothTyped_29 : decode cX5_bothTyped 29 = .ok (.ireturn, 1) := by decide +kernel
theorem dX5_faultOfTurning_0 : decode cX5_faultOfTurning 0 = .ok (.aload_n 0, 1) := by decide +kernel
theorem dX5_faultOfTurning_1 : decode cX5_faultOfTurning 1 = .ok (.getfield 19, 3) := by decide +kernel
theorem dX5_faultOfTurning_4 : decode cX5_faultOfTurning 4 = .ok (.iload_n 1, 1) := by decide +kernel
theorem dX5_faultOfTurning_5 : decode cX5_faultOfTurning 5 = .ok (.iconst 0, 1) := by decide +kernel
theorem dX5_faultOfTurning_6 : decode cX5_faultOfTurning 6 = .ok (.invokevirtual 60, 3) := by decide +kernel
theorem dX5_faultOfTurning_9 : decode cX5_faultOfTurning 9 = .ok (.istore_n 3, 1) := by decide +kernel
theorem dX5_faultOfTurning_10 : decode cX5_faultOfTurning 10 = .ok (.iload_n 3, 1) := by decide +kernel
theorem dX5_faultOfTurning_11 : decode cX5_faultOfTurning 11 = .ok (.ifCond .ne 13, 3) := by decide +kernel
theorem dX5_faultOfTurning_14 : decode cX5_faultOfTurning 14 = .ok (.aload_n 0, 1) := by decide +kernel
theorem dX5_faultOfTurning_15 : decode cX5_faultOfTurning 15 = .ok (.getfield 19, 3) := by decide +kernel
theorem dX5_faultOfTurning_18 : decode cX5_faultOfTurning 18 = .ok (.iload_n 2, 1) := by decide +kernel
theorem dX5_faultOfTurning_19 : decode cX5_faultOfTurning 19 = .ok (.iconst 0, 1) := by decide +kernel
theorem dX5_faultOfTurning_20 : decode cX5_faultOfTurning 20 = .ok (.invokevirtual 60, 3) := by decide +kernel
theorem dX5_faultOfTurning_23 : decode cX5_faultOfTurning 23 = .ok (.istore_n 3, 1) := by decide +kernel
theorem dX5_faultOfTurning_24 : decode cX5_faultOfTurning 24 = .ok (.iload_n 3, 1) := by decide +kernel
theorem dX5_faultOfTurning_25 : decode cX5_faultOfTurning 25 = .ok (.ifCond .ne 19, 3) := by decide +kernel
theorem dX5_faultOfTurning_28 : decode cX5_faultOfTurning 28 = .ok (.aload_n 0, 1) := by decide +kernel
theorem dX5_faultOfTurning_29 : decode cX5_faultOfTurning 29 = .ok (.getfield 26, 3) := by decide +kernel
theorem dX5_faultOfTurning_32 : decode cX5_faultOfTurning 32 = .ok (.aload_n 0, 1) := by decide +kernel
theorem dX5_faultOfTurning_33 : decode cX5_faultOfTurning 33 = .ok (.getfield 19, 3) := by decide +kernel
theorem dX5_faultOfTurning_36 : decode cX5_faultOfTurning 36 = .ok (.iload_n 1, 1) := by decide +kernel
theorem dX5_faultOfTurning_37 : decode cX5_faultOfTurning 37 = .ok (.iload_n 2, 1) := by decide +kernel
theorem dX5_faultOfTurning_38 : decode cX5_faultOfTurning 38 = .ok (.invokevirtual 102, 3) := by decide +kernel
theorem dX5_faultOfTurning_41 : decode cX5_faultOfTurning 41 = .ok (.goto 4, 3) := by decide +kernel
theorem dX5_faultOfTurning_44 : decode cX5_faultOfTurning 44 = .ok (.iload_n 3, 1) := by decide +kernel
theorem dX5_faultOfTurning_45 : decode cX5_faultOfTurning 45 = .ok (.ireturn, 1) := by decide +kernel
theorem dX5_needPlace_0 : decode cX5_needPlace 0 = .ok (.iload_n 1, 1) := by decide +kernel
theorem dX5_needPlace_1 : decode cX5_needPlace 1 = .ok (.ifCond .lt 8, 3) := by decide +kernel
theorem dX5_needPlace_4 : decode cX5_needPlace 4 = .ok (.iload_n 1, 1) := by decide +kernel
theorem dX5_needPlace_5 : decode cX5_needPlace 5 = .ok (.iload_n 2, 1) := by decide +kernel
theorem dX5_needPlace_6 : decode cX5_needPlace 6 = .ok (.if_icmp .lt 11, 3) := by decide +kernel
theorem dX5_needPlace_9 : decode cX5_needPlace 9 = .ok (.new 85, 3) := by decide +kernel
theorem dX5_needPlace_12 : decode cX5_needPlace 12 = .ok (.dup, 1) := by decide +kernel
theorem dX5_needPlace_13 : decode cX5_needPlace 13 = .ok (.invokespecial 87, 3) := by decide +kernel
theorem dX5_needPlace_16 : decode cX5_needPlace 16 = .ok (.athrow, 1) := by decide +kernel
theorem dX5_needPlace_17 : decode cX5_needPlace 17 = .ok (.return_, 1) := by decide +kernel
theorem dX5_needPart_0 : decode cX5_needPart 0 = .ok (.aload_n 0, 1) := by decide +kernel
theorem dX5_needPart_1 : decode cX5_needPart 1 = .ok (.iload_n 1, 1) := by decide +kernel
theorem dX5_needPart_2 : decode cX5_needPart 2 = .ok (.aload_n 0, 1) := by decide +kernel
theorem dX5_needPart_3 : decode cX5_needPart 3 = .ok (.getfield 10, 3) := by decide +kernel
theorem dX5_needPart_6 : decode cX5_needPart 6 = .ok (.invokevirtual 42, 3) := by decide +kernel
theorem dX5_needPart_9 : decode cX5_needPart 9 = .ok (.invokevirtual 52, 3) := by decide +kernel
theorem dX5_needPart_12 : decode cX5_needPart 12 = .ok (.return_, 1) := by decide +kernel
theorem dX5_needBetween_0 : decode cX5_needBetween 0 = .ok (.iload_n 1, 1) := by decide +kernel
theorem dX5_needBetween_1 : decode cX5_needBetween 1 = .ok (.iload_n 2, 1) := by decide +kernel
theorem dX5_needBetween_2 : decode cX5_needBetween 2 = .ok (.if_icmp .lt 8, 3) := by decide +kernel
theorem dX5_needBetween_5 : decode cX5_needBetween 5 = .ok (.iload_n 1, 1) := by decide +kernel
theorem dX5_needBetween_6 : decode cX5_needBetween 6 = .ok (.iload_n 3, 1) := by decide +kernel
theorem dX5_needBetween_7 : decode cX5_needBetween 7 = .ok (.if_icmp .le 11, 3) := by decide +kernel
theorem dX5_needBetween_10 : decode cX5_needBetween 10 = .ok (.new 88, 3) := by decide +kernel
theorem dX5_needBetween_13 : decode cX5_needBetween 13 = .ok (.dup, 1) := by decide +kernel
theorem dX5_needBetween_14 : decode cX5_needBetween 14 = .ok (.invokespecial 90, 3) := by decide +kernel
theorem dX5_needBetween_17 : decode cX5_needBetween 17 = .ok (.athrow, 1) := by decide +kernel
theorem dX5_needBetween_18 : decode cX5_needBetween 18 = .ok (.return_, 1) := by decide +kernel
theorem dX5_add_0 : decode cX5_add 0 = .ok (.aload_n 0, 1) := by decide +kernel
theorem dX5_add_1 : decode cX5_add 1 = .ok (.getfield 10, 3) := by decide +kernel
theorem dX5_add_4 : decode cX5_add 4 = .ok (.iload_n 3, 1) := by decide +kernel
theorem dX5_add_5 : decode cX5_add 5 = .ok (.iload 4, 2) := by decide +kernel
theorem dX5_add_7 : decode cX5_add 7 = .ok (.iload 5, 2) := by decide +kernel
theorem dX5_add_9 : decode cX5_add 9 = .ok (.invokevirtual 91, 3) := by decide +kernel
theorem dX5_add_12 : decode cX5_add 12 = .ok (.istore 6, 2) := by decide +kernel
theorem dX5_add_14 : decode cX5_add 14 = .ok (.aload_n 0, 1) := by decide +kernel
theorem dX5_add_15 : decode cX5_add 15 = .ok (.getfield 10, 3) := by decide +kernel
theorem dX5_add_18 : decode cX5_add 18 = .ok (.invokevirtual 42, 3) := by decide +kernel
theorem dX5_add_21 : decode cX5_add 21 = .ok (.bipush 40, 2) := by decide +kernel
theorem dX5_add_23 : decode cX5_add 23 = .ok (.if_icmp .ge 10, 3) := by decide +kernel
theorem dX5_add_26 : decode cX5_add 26 = .ok (.iload 6, 2) := by decide +kernel
theorem dX5_add_28 : decode cX5_add 28 = .ok (.bipush 60, 2) := by decide +kernel
theorem dX5_add_30 : decode cX5_add 30 = .ok (.if_icmp .le 11, 3) := by decide +kernel
theorem dX5_add_33 : decode cX5_add 33 = .ok (.new 46, 3) := by decide +kernel
theorem dX5_add_36 : decode cX5_add 36 = .ok (.dup, 1) := by decide +kernel
theorem dX5_add_37 : decode cX5_add 37 = .ok (.invokespecial 48, 3) := by decide +kernel
theorem dX5_add_40 : decode cX5_add 40 = .ok (.athrow, 1) := by decide +kernel
theorem dX5_add_41 : decode cX5_add 41 = .ok (.aload_n 0, 1) := by decide +kernel
theorem dX5_add_42 : decode cX5_add 42 = .ok (.getfield 10, 3) := by decide +kernel
theorem dX5_add_45 : decode cX5_add 45 = .ok (.iload_n 1, 1) := by decide +kernel
theorem dX5_add_46 : decode cX5_add 46 = .ok (.iload_n 2, 1) := by decide +kernel
theorem dX5_add_47 : decode cX5_add 47 = .ok (.iload_n 3, 1) := by decide +kernel
theorem dX5_add_48 : decode cX5_add 48 = .ok (.iload 4, 2) := by decide +kernel
theorem dX5_add_50 : decode cX5_add 50 = .ok (.iload 5, 2) := by decide +kernel
theorem dX5_add_52 : decode cX5_add 52 = .ok (.invokevirtual 95, 3) := by decide +kernel
theorem dX5_add_55 : decode cX5_add 55 = .ok (.istore 7, 2) := by decide +kernel
theorem dX5_add_57 : decode cX5_add 57 = .ok (.aload_n 0, 1) := by decide +kernel
theorem dX5_add_58 : decode cX5_add 58 = .ok (.getfield 26, 3) := by decide +kernel
theorem dX5_add_61 : decode cX5_add 61 = .ok (.aload_n 0, 1) := by decide +kernel
theorem dX5_add_62 : decode cX5_add 62 = .ok (.getfield 10, 3) := by decide +kernel
theorem dX5_add_65 : decode cX5_add 65 = .ok (.iload 7, 2) := by decide +kernel
theorem dX5_add_67 : decode cX5_add 67 = .ok (.aload_n 0, 1) := by decide +kernel
theorem dX5_add_68 : decode cX5_add 68 = .ok (.getfield 19, 3) := by decide +kernel
theorem dX5_add_71 : decode cX5_add 71 = .ok (.invokevirtual 98, 3) := by decide +kernel
theorem dX5_add_74 : decode cX5_add 74 = .ok (.iload 7, 2) := by decide +kernel
theorem dX5_add_76 : decode cX5_add 76 = .ok (.ireturn, 1) := by decide +kernel
theorem dX5_plain_0 : decode cX5_plain 0 = .ok (.aload_n 0, 1) := by decide +kernel
theorem dX5_plain_1 : decode cX5_plain 1 = .ok (.iload_n 1, 1) := by decide +kernel
theorem dX5_plain_2 : decode cX5_plain 2 = .ok (.iconst 0, 1) := by decide +kernel
theorem dX5_plain_3 : decode cX5_plain 3 = .ok (.iconst 1, 1) := by decide +kernel
theorem dX5_plain_4 : decode cX5_plain 4 = .ok (.invokevirtual 30, 3) := by decide +kernel
theorem dX5_plain_7 : decode cX5_plain 7 = .ok (.aload_n 0, 1) := by decide +kernel
theorem dX5_plain_8 : decode cX5_plain 8 = .ok (.iload_n 1, 1) := by decide +kernel
theorem dX5_plain_9 : decode cX5_plain 9 = .ok (.ifCond .ne 7, 3) := by decide +kernel
theorem dX5_plain_12 : decode cX5_plain 12 = .ok (.iconst 0, 1) := by decide +kernel
theorem dX5_plain_13 : decode cX5_plain 13 = .ok (.goto 4, 3) := by decide +kernel
theorem dX5_plain_16 : decode cX5_plain 16 = .ok (.iconst 1, 1) := by decide +kernel
theorem dX5_plain_17 : decode cX5_plain 17 = .ok (.iconst (-1), 1) := by decide +kernel
theorem dX5_plain_18 : decode cX5_plain 18 = .ok (.iconst (-1), 1) := by decide +kernel
theorem dX5_plain_19 : decode cX5_plain 19 = .ok (.iconst (-1), 1) := by decide +kernel
theorem dX5_plain_20 : decode cX5_plain 20 = .ok (.iconst (-1), 1) := by decide +kernel
theorem dX5_plain_21 : decode cX5_plain 21 = .ok (.invokevirtual 34, 3) := by decide +kernel
theorem dX5_plain_24 : decode cX5_plain 24 = .ok (.ireturn, 1) := by decide +kernel
theorem dX5_name_0 : decode cX5_name 0 = .ok (.aload_n 0, 1) := by decide +kernel
theorem dX5_name_1 : decode cX5_name 1 = .ok (.iload_n 1, 1) := by decide +kernel
theorem dX5_name_2 : decode cX5_name 2 = .ok (.iconst 0, 1) := by decide +kernel
theorem dX5_name_3 : decode cX5_name 3 = .ok (.bipush 9, 2) := by decide +kernel
theorem dX5_name_5 : decode cX5_name 5 = .ok (.invokevirtual 30, 3) := by decide +kernel
theorem dX5_name_8 : decode cX5_name 8 = .ok (.aload_n 0, 1) := by decide +kernel
theorem dX5_name_9 : decode cX5_name 9 = .ok (.iconst 2, 1) := by decide +kernel
theorem dX5_name_10 : decode cX5_name 10 = .ok (.iload_n 1, 1) := by decide +kernel
theorem dX5_name_11 : decode cX5_name 11 = .ok (.iconst (-1), 1) := by decide +kernel
theorem dX5_name_12 : decode cX5_name 12 = .ok (.iconst (-1), 1) := by decide +kernel
theorem dX5_name_13 : decode cX5_name 13 = .ok (.iconst (-1), 1) := by decide +kernel
theorem dX5_name_14 : decode cX5_name 14 = .ok (.invokevirtual 34, 3) := by decide +kernel
theorem dX5_name_17 : decode cX5_name 17 = .ok (.ireturn, 1) := by decide +kernel
theorem dX5_wheel_0 : decode cX5_wheel 0 = .ok (.aload_n 0, 1) := by decide +kernel
theorem dX5_wheel_1 : decode cX5_wheel 1 = .ok (.iload_n 2, 1) := by decide +kernel
theorem dX5_wheel_2 : decode cX5_wheel 2 = .ok (.invokevirtual 38, 3) := by decide +kernel
theorem dX5_wheel_5 : decode cX5_wheel 5 = .ok (.aload_n 0, 1) := by decide +kernel
theorem dX5_wheel_6 : decode cX5_wheel 6 = .ok (.iload_n 1, 1) := by decide +kernel
theorem dX5_wheel_7 : decode cX5_wheel 7 = .ok (.iconst 0, 1) := by decide +kernel
theorem dX5_wheel_8 : decode cX5_wheel 8 = .ok (.bipush 9, 2) := by decide +kernel
theorem dX5_wheel_10 : decode cX5_wheel 10 = .ok (.invokevirtual 30, 3) := by decide +kernel
theorem dX5_wheel_13 : decode cX5_wheel 13 = .ok (.aload_n 0, 1) := by decide +kernel
theorem dX5_wheel_14 : decode cX5_wheel 14 = .ok (.iconst 3, 1) := by decide +kernel
theorem dX5_wheel_15 : decode cX5_wheel 15 = .ok (.iload_n 1, 1) := by decide +kernel
theorem dX5_wheel_16 : decode cX5_wheel 16 = .ok (.iload_n 2, 1) := by decide +kernel
theorem dX5_wheel_17 : decode cX5_wheel 17 = .ok (.iconst (-1), 1) := by decide +kernel
theorem dX5_wheel_18 : decode cX5_wheel 18 = .ok (.iconst (-1), 1) := by decide +kernel
theorem dX5_wheel_19 : decode cX5_wheel 19 = .ok (.invokevirtual 34, 3) := by decide +kernel
theorem dX5_wheel_22 : decode cX5_wheel 22 = .ok (.ireturn, 1) := by decide +kernel
theorem dX5_turn_0 : decode cX5_turn 0 = .ok (.aload_n 0, 1) := by decide +kernel
theorem dX5_turn_1 : decode cX5_turn 1 = .ok (.iload_n 1, 1) := by decide +kernel
theorem dX5_turn_2 : decode cX5_turn 2 = .ok (.invokevirtual 38, 3) := by decide +kernel
theorem dX5_turn_5 : decode cX5_turn 5 = .ok (.aload_n 0, 1) := by decide +kernel
theorem dX5_turn_6 : decode cX5_turn 6 = .ok (.iload_n 2, 1) := by decide +kernel
theorem dX5_turn_7 : decode cX5_turn 7 = .ok (.invokevirtual 38, 3) := by decide +kernel
theorem dX5_turn_10 : decode cX5_turn 10 = .ok (.aload_n 0, 1) := by decide +kernel
theorem dX5_turn_11 : decode cX5_turn 11 = .ok (.iconst 4, 1) := by decide +kernel
theorem dX5_turn_12 : decode cX5_turn 12 = .ok (.iconst (-1), 1) := by decide +kernel
theorem dX5_turn_13 : decode cX5_turn 13 = .ok (.iload_n 1, 1) := by decide +kernel
theorem dX5_turn_14 : decode cX5_turn 14 = .ok (.iload_n 2, 1) := by decide +kernel
theorem dX5_turn_15 : decode cX5_turn 15 = .ok (.iconst (-1), 1) := by decide +kernel
theorem dX5_turn_16 : decode cX5_turn 16 = .ok (.invokevirtual 34, 3) := by decide +kernel
theorem dX5_turn_19 : decode cX5_turn 19 = .ok (.ireturn, 1) := by decide +kernel
theorem dX5_tell_0 : decode cX5_tell 0 = .ok (.aload_n 0, 1) := by decide +kernel
theorem dX5_tell_1 : decode cX5_tell 1 = .ok (.iload_n 2, 1) := by decide +kernel
theorem dX5_tell_2 : decode cX5_tell 2 = .ok (.invokevirtual 38, 3) := by decide +kernel
theorem dX5_tell_5 : decode cX5_tell 5 = .ok (.aload_n 0, 1) := by decide +kernel
theorem dX5_tell_6 : decode cX5_tell 6 = .ok (.iload_n 3, 1) := by decide +kernel
theorem dX5_tell_7 : decode cX5_tell 7 = .ok (.invokevirtual 38, 3) := by decide +kernel
theorem dX5_tell_10 : decode cX5_tell 10 = .ok (.aload_n 0, 1) := by decide +kernel
theorem dX5_tell_11 : decode cX5_tell 11 = .ok (.iload_n 1, 1) := by decide +kernel
theorem dX5_tell_12 : decode cX5_tell 12 = .ok (.iconst 0, 1) := by decide +kernel
theorem dX5_tell_13 : decode cX5_tell 13 = .ok (.bipush 9, 2) := by decide +kernel
theorem dX5_tell_15 : decode cX5_tell 15 = .ok (.invokevirtual 30, 3) := by decide +kernel
theorem dX5_tell_18 : decode cX5_tell 18 = .ok (.aload_n 0, 1) := by decide +kernel
theorem dX5_tell_19 : decode cX5_tell 19 = .ok (.iconst 5, 1) := by decide +kernel
theorem dX5_tell_20 : decode cX5_tell 20 = .ok (.iload_n 1, 1) := by decide +kernel
theorem dX5_tell_21 : decode cX5_tell 21 = .ok (.iload_n 2, 1) := by decide +kernel
theorem dX5_tell_22 : decode cX5_tell 22 = .ok (.iload_n 3, 1) := by decide +kernel
theorem dX5_tell_23 : decode cX5_tell 23 = .ok (.iconst (-1), 1) := by decide +kernel
theorem dX5_tell_24 : decode cX5_tell 24 = .ok (.invokevirtual 34, 3) := by decide +kernel
theorem dX5_tell_27 : decode cX5_tell 27 = .ok (.ireturn, 1) := by decide +kernel
theorem dX5_axle_0 : decode cX5_axle 0 = .ok (.aload_n 0, 1) := by decide +kernel
theorem dX5_axle_1 : decode cX5_axle 1 = .ok (.iload_n 1, 1) := by decide +kernel
theorem dX5_axle_2 : decode cX5_axle 2 = .ok (.invokevirtual 38, 3) := by decide +kernel
theorem dX5_axle_5 : decode cX5_axle 5 = .ok (.aload_n 0, 1) := by decide +kernel
theorem dX5_axle_6 : decode cX5_axle 6 = .ok (.iload_n 2, 1) := by decide +kernel
theorem dX5_axle_7 : decode cX5_axle 7 = .ok (.invokevirtual 38, 3) := by decide +kernel
theorem dX5_axle_10 : decode cX5_axle 10 = .ok (.aload_n 0, 1) := by decide +kernel
theorem dX5_axle_11 : decode cX5_axle 11 = .ok (.bipush 6, 2) := by decide +kernel
theorem dX5_axle_13 : decode cX5_axle 13 = .ok (.iconst (-1), 1) := by decide +kernel
theorem dX5_axle_14 : decode cX5_axle 14 = .ok (.iload_n 1, 1) := by decide +kernel
theorem dX5_axle_15 : decode cX5_axle 15 = .ok (.iload_n 2, 1) := by decide +kernel
theorem dX5_axle_16 : decode cX5_axle 16 = .ok (.iconst (-1), 1) := by decide +kernel
theorem dX5_axle_17 : decode cX5_axle 17 = .ok (.invokevirtual 34, 3) := by decide +kernel
theorem dX5_axle_20 : decode cX5_axle 20 = .ok (.ireturn, 1) := by decide +kernel
theorem dX5_end_0 : decode cX5_end 0 = .ok (.aload_n 0, 1) := by decide +kernel
theorem dX5_end_1 : decode cX5_end 1 = .ok (.iload_n 1, 1) := by decide +kernel
theorem dX5_end_2 : decode cX5_end 2 = .ok (.invokevirtual 38, 3) := by decide +kernel
theorem dX5_end_5 : decode cX5_end 5 = .ok (.aload_n 0, 1) := by decide +kernel
theorem dX5_end_6 : decode cX5_end 6 = .ok (.iload_n 2, 1) := by decide +kernel
theorem dX5_end_7 : decode cX5_end 7 = .ok (.iconst 0, 1) := by decide +kernel
theorem dX5_end_8 : decode cX5_end 8 = .ok (.iconst 1, 1) := by decide +kernel
theorem dX5_end_9 : decode cX5_end 9 = .ok (.invokevirtual 30, 3) := by decide +kernel
theorem dX5_end_12 : decode cX5_end 12 = .ok (.aload_n 0, 1) := by decide +kernel
theorem dX5_end_13 : decode cX5_end 13 = .ok (.bipush 7, 2) := by decide +kernel
theorem dX5_end_15 : decode cX5_end 15 = .ok (.iload_n 2, 1) := by decide +kernel
theorem dX5_end_16 : decode cX5_end 16 = .ok (.iload_n 1, 1) := by decide +kernel
theorem dX5_end_17 : decode cX5_end 17 = .ok (.iconst (-1), 1) := by decide +kernel
theorem dX5_end_18 : decode cX5_end 18 = .ok (.iconst (-1), 1) := by decide +kernel
theorem dX5_end_19 : decode cX5_end 19 = .ok (.invokevirtual 34, 3) := by decide +kernel
theorem dX5_end_22 : decode cX5_end 22 = .ok (.ireturn, 1) := by decide +kernel
theorem dX5_either_0 : decode cX5_either 0 = .ok (.aload_n 0, 1) := by decide +kernel
theorem dX5_either_1 : decode cX5_either 1 = .ok (.iload_n 1, 1) := by decide +kernel
theorem dX5_either_2 : decode cX5_either 2 = .ok (.invokevirtual 38, 3) := by decide +kernel
theorem dX5_either_5 : decode cX5_either 5 = .ok (.aload_n 0, 1) := by decide +kernel
theorem dX5_either_6 : decode cX5_either 6 = .ok (.iload_n 2, 1) := by decide +kernel
theorem dX5_either_7 : decode cX5_either 7 = .ok (.invokevirtual 38, 3) := by decide +kernel
theorem dX5_either_10 : decode cX5_either 10 = .ok (.aload_n 0, 1) := by decide +kernel
theorem dX5_either_11 : decode cX5_either 11 = .ok (.iload_n 3, 1) := by decide +kernel
theorem dX5_either_12 : decode cX5_either 12 = .ok (.invokevirtual 38, 3) := by decide +kernel
theorem dX5_either_15 : decode cX5_either 15 = .ok (.aload_n 0, 1) := by decide +kernel
theorem dX5_either_16 : decode cX5_either 16 = .ok (.bipush 8, 2) := by decide +kernel
theorem dX5_either_18 : decode cX5_either 18 = .ok (.iconst (-1), 1) := by decide +kernel
theorem dX5_either_19 : decode cX5_either 19 = .ok (.iload_n 1, 1) := by decide +kernel
theorem dX5_either_20 : decode cX5_either 20 = .ok (.iload_n 2, 1) := by decide +kernel
theorem dX5_either_21 : decode cX5_either 21 = .ok (.iload_n 3, 1) := by decide +kernel
theorem dX5_either_22 : decode cX5_either 22 = .ok (.invokevirtual 34, 3) := by decide +kernel
theorem dX5_either_25 : decode cX5_either 25 = .ok (.ireturn, 1) := by decide +kernel
theorem dX5_undo_0 : decode cX5_undo 0 = .ok (.aload_n 0, 1) := by decide +kernel
theorem dX5_undo_1 : decode cX5_undo 1 = .ok (.getfield 10, 3) := by decide +kernel
theorem dX5_undo_4 : decode cX5_undo 4 = .ok (.invokevirtual 42, 3) := by decide +kernel
theorem dX5_undo_7 : decode cX5_undo 7 = .ok (.iconst 1, 1) := by decide +kernel
theorem dX5_undo_8 : decode cX5_undo 8 = .ok (.isub, 1) := by decide +kernel
theorem dX5_undo_9 : decode cX5_undo 9 = .ok (.istore_n 1, 1) := by decide +kernel
theorem dX5_undo_10 : decode cX5_undo 10 = .ok (.iload_n 1, 1) := by decide +kernel
theorem dX5_undo_11 : decode cX5_undo 11 = .ok (.ifCond .ge 11, 3) := by decide +kernel
theorem dX5_undo_14 : decode cX5_undo 14 = .ok (.new 46, 3) := by decide +kernel
theorem dX5_undo_17 : decode cX5_undo 17 = .ok (.dup, 1) := by decide +kernel
theorem dX5_undo_18 : decode cX5_undo 18 = .ok (.invokespecial 48, 3) := by decide +kernel
theorem dX5_undo_21 : decode cX5_undo 21 = .ok (.athrow, 1) := by decide +kernel
theorem dX5_undo_22 : decode cX5_undo 22 = .ok (.aload_n 0, 1) := by decide +kernel
theorem dX5_undo_23 : decode cX5_undo 23 = .ok (.getfield 10, 3) := by decide +kernel
theorem dX5_undo_26 : decode cX5_undo 26 = .ok (.invokevirtual 49, 3) := by decide +kernel
theorem dX5_undo_29 : decode cX5_undo 29 = .ok (.iload_n 1, 1) := by decide +kernel
theorem dX5_undo_30 : decode cX5_undo 30 = .ok (.ireturn, 1) := by decide +kernel
theorem dX5_part_0 : decode cX5_part 0 = .ok (.aload_n 0, 1) := by decide +kernel
theorem dX5_part_1 : decode cX5_part 1 = .ok (.iload_n 1, 1) := by decide +kernel
theorem dX5_part_2 : decode cX5_part 2 = .ok (.invokevirtual 38, 3) := by decide +kernel
theorem dX5_part_5 : decode cX5_part 5 = .ok (.aload_n 0, 1) := by decide +kernel
theorem dX5_part_6 : decode cX5_part 6 = .ok (.iload_n 2, 1) := by decide +kernel
theorem dX5_part_7 : decode cX5_part 7 = .ok (.bipush 7, 2) := by decide +kernel
theorem dX5_part_9 : decode cX5_part 9 = .ok (.invokevirtual 52, 3) := by decide +kernel
theorem dX5_part_12 : decode cX5_part 12 = .ok (.aload_n 0, 1) := by decide +kernel
theorem dX5_part_13 : decode cX5_part 13 = .ok (.getfield 10, 3) := by decide +kernel
theorem dX5_part_16 : decode cX5_part 16 = .ok (.iload_n 1, 1) := by decide +kernel
theorem dX5_part_17 : decode cX5_part 17 = .ok (.iload_n 2, 1) := by decide +kernel
theorem dX5_part_18 : decode cX5_part 18 = .ok (.invokevirtual 56, 3) := by decide +kernel
theorem dX5_part_21 : decode cX5_part 21 = .ok (.ireturn, 1) := by decide +kernel
theorem dX5_type_0 : decode cX5_type 0 = .ok (.aload_n 0, 1) := by decide +kernel
theorem dX5_type_1 : decode cX5_type 1 = .ok (.iload_n 1, 1) := by decide +kernel
theorem dX5_type_2 : decode cX5_type 2 = .ok (.invokevirtual 38, 3) := by decide +kernel
theorem dX5_type_5 : decode cX5_type 5 = .ok (.aload_n 0, 1) := by decide +kernel
theorem dX5_type_6 : decode cX5_type 6 = .ok (.iload_n 2, 1) := by decide +kernel
theorem dX5_type_7 : decode cX5_type 7 = .ok (.iconst 5, 1) := by decide +kernel
theorem dX5_type_8 : decode cX5_type 8 = .ok (.invokevirtual 52, 3) := by decide +kernel
theorem dX5_type_11 : decode cX5_type 11 = .ok (.aload_n 0, 1) := by decide +kernel
theorem dX5_type_12 : decode cX5_type 12 = .ok (.getfield 19, 3) := by decide +kernel
theorem dX5_type_15 : decode cX5_type 15 = .ok (.iload_n 1, 1) := by decide +kernel
theorem dX5_type_16 : decode cX5_type 16 = .ok (.iload_n 2, 1) := by decide +kernel
theorem dX5_type_17 : decode cX5_type 17 = .ok (.invokevirtual 60, 3) := by decide +kernel
theorem dX5_type_20 : decode cX5_type 20 = .ok (.ireturn, 1) := by decide +kernel
theorem dX5_code_0 : decode cX5_code 0 = .ok (.aload_n 0, 1) := by decide +kernel
theorem dX5_code_1 : decode cX5_code 1 = .ok (.iload_n 1, 1) := by decide +kernel
theorem dX5_code_2 : decode cX5_code 2 = .ok (.invokevirtual 38, 3) := by decide +kernel
theorem dX5_code_5 : decode cX5_code 5 = .ok (.aload_n 0, 1) := by decide +kernel
theorem dX5_code_6 : decode cX5_code 6 = .ok (.iload_n 2, 1) := by decide +kernel
theorem dX5_code_7 : decode cX5_code 7 = .ok (.aload_n 0, 1) := by decide +kernel
theorem dX5_code_8 : decode cX5_code 8 = .ok (.getfield 19, 3) := by decide +kernel
theorem dX5_code_11 : decode cX5_code 11 = .ok (.iload_n 1, 1) := by decide +kernel
theorem dX5_code_12 : decode cX5_code 12 = .ok (.iconst 2, 1) := by decide +kernel
theorem dX5_code_13 : decode cX5_code 13 = .ok (.invokevirtual 60, 3) := by decide +kernel
theorem dX5_code_16 : decode cX5_code 16 = .ok (.invokevirtual 52, 3) := by decide +kernel
theorem dX5_code_19 : decode cX5_code 19 = .ok (.aload_n 0, 1) := by decide +kernel
theorem dX5_code_20 : decode cX5_code 20 = .ok (.getfield 19, 3) := by decide +kernel
theorem dX5_code_23 : decode cX5_code 23 = .ok (.iload_n 1, 1) := by decide +kernel
theorem dX5_code_24 : decode cX5_code 24 = .ok (.iload_n 2, 1) := by decide +kernel
theorem dX5_code_25 : decode cX5_code 25 = .ok (.invokevirtual 61, 3) := by decide +kernel
theorem dX5_code_28 : decode cX5_code 28 = .ok (.ireturn, 1) := by decide +kernel
theorem dX5_count_0 : decode cX5_count 0 = .ok (.aload_n 0, 1) := by decide +kernel
theorem dX5_count_1 : decode cX5_count 1 = .ok (.iload_n 1, 1) := by decide +kernel
theorem dX5_count_2 : decode cX5_count 2 = .ok (.bipush 6, 2) := by decide +kernel
theorem dX5_count_4 : decode cX5_count 4 = .ok (.invokevirtual 52, 3) := by decide +kernel
theorem dX5_count_7 : decode cX5_count 7 = .ok (.aload_n 0, 1) := by decide +kernel
theorem dX5_count_8 : decode cX5_count 8 = .ok (.iload_n 1, 1) := by decide +kernel
theorem dX5_count_9 : decode cX5_count 9 = .ok (.invokevirtual 64, 3) := by decide +kernel
theorem dX5_count_12 : decode cX5_count 12 = .ok (.ireturn, 1) := by decide +kernel
theorem dX5_same_0 : decode cX5_same 0 = .ok (.aload_n 0, 1) := by decide +kernel
theorem dX5_same_1 : decode cX5_same 1 = .ok (.iload_n 1, 1) := by decide +kernel
theorem dX5_same_2 : decode cX5_same 2 = .ok (.invokevirtual 38, 3) := by decide +kernel
theorem dX5_same_5 : decode cX5_same 5 = .ok (.aload_n 0, 1) := by decide +kernel
theorem dX5_same_6 : decode cX5_same 6 = .ok (.iload_n 2, 1) := by decide +kernel
theorem dX5_same_7 : decode cX5_same 7 = .ok (.invokevirtual 38, 3) := by decide +kernel
theorem dX5_same_10 : decode cX5_same 10 = .ok (.aload_n 0, 1) := by decide +kernel
theorem dX5_same_11 : decode cX5_same 11 = .ok (.iload_n 1, 1) := by decide +kernel
theorem dX5_same_12 : decode cX5_same 12 = .ok (.iload_n 2, 1) := by decide +kernel
theorem dX5_same_13 : decode cX5_same 13 = .ok (.invokevirtual 68, 3) := by decide +kernel
theorem dX5_same_16 : decode cX5_same 16 = .ok (.ifCond .eq 19, 3) := by decide +kernel
theorem dX5_same_19 : decode cX5_same 19 = .ok (.aload_n 0, 1) := by decide +kernel
theorem dX5_same_20 : decode cX5_same 20 = .ok (.getfield 19, 3) := by decide +kernel
theorem dX5_same_23 : decode cX5_same 23 = .ok (.iload_n 1, 1) := by decide +kernel
theorem dX5_same_24 : decode cX5_same 24 = .ok (.iload_n 2, 1) := by decide +kernel
theorem dX5_same_25 : decode cX5_same 25 = .ok (.invokevirtual 72, 3) := by decide +kernel
theorem dX5_same_28 : decode cX5_same 28 = .ok (.ifCond .eq 7, 3) := by decide +kernel
theorem dX5_same_31 : decode cX5_same 31 = .ok (.iconst 1, 1) := by decide +kernel
theorem dX5_same_32 : decode cX5_same 32 = .ok (.goto 4, 3) := by decide +kernel
theorem dX5_same_35 : decode cX5_same 35 = .ok (.iconst 0, 1) := by decide +kernel
theorem dX5_same_36 : decode cX5_same 36 = .ok (.ireturn, 1) := by decide +kernel
theorem dX5_goes_0 : decode cX5_goes 0 = .ok (.aload_n 0, 1) := by decide +kernel
theorem dX5_goes_1 : decode cX5_goes 1 = .ok (.iload_n 1, 1) := by decide +kernel
theorem dX5_goes_2 : decode cX5_goes 2 = .ok (.invokevirtual 38, 3) := by decide +kernel
theorem dX5_goes_5 : decode cX5_goes 5 = .ok (.aload_n 0, 1) := by decide +kernel
theorem dX5_goes_6 : decode cX5_goes 6 = .ok (.iload_n 2, 1) := by decide +kernel
theorem dX5_goes_7 : decode cX5_goes 7 = .ok (.invokevirtual 38, 3) := by decide +kernel
theorem dX5_goes_10 : decode cX5_goes 10 = .ok (.aload_n 0, 1) := by decide +kernel
theorem dX5_goes_11 : decode cX5_goes 11 = .ok (.iload_n 1, 1) := by decide +kernel
theorem dX5_goes_12 : decode cX5_goes 12 = .ok (.iload_n 2, 1) := by decide +kernel
theorem dX5_goes_13 : decode cX5_goes 13 = .ok (.invokevirtual 78, 3) := by decide +kernel
theorem dX5_goes_16 : decode cX5_goes 16 = .ok (.ireturn, 1) := by decide +kernel
section T5
variable {p : Program} {l : Launch} {e : Env} {R : Room} {s : State} {m : MethodId} {args : Array Value} {below : List Frame} {meth : Method} {c : Code} {D : va_G} {g : gT} {N : Nat} {ad ln : Nat → Nat}
def mX5_counted_b45 (K16 : gM → Int32 → Int32 → Int32 → Option (gM × Int32)) (A : gM) (x1 : Int32) (x2 : Int32) (x3 : Int32) : Option (gM × Int32) :=
  g_let (x3 + 1) fun v1 =>
  K16 A x1 x2 v1
def mX5_counted_b16 (K16 : gM → Int32 → Int32 → Int32 → Option (gM × Int32)) (A : gM) (x1 : Int32) (x2 : Int32) (x3 : Int32) : Option (gM × Int32) :=
  (mX2_made A).bind fun q1 =>
  if q1.2 ≤ x3 then
  some (q1.1, x2)
  else
  (mX3_fact q1.1 x3 0).bind fun q3 =>
  if q3.2 = (x1 - 1) then
  g_let (x2 + 1) fun v5 =>
  mX5_counted_b45 K16 q3.1 x1 v5 x3
  else
  mX5_counted_b45 K16 q3.1 x1 x2 x3
def mX5_counted_L16 : Nat → gM → Int32 → Int32 → Int32 → Option (gM × Int32)
  | 0 => fun _ _ _ _ => none
  | f + 1 => mX5_counted_b16 (mX5_counted_L16 f)
def mX5_counted_b0 (A : gM) (x1 : Int32) : Option (gM × Int32) :=
  if x1 = 0 then
  (mX2_made A).bind fun q2 =>
  some (q2.1, q2.2)
  else
  mX5_counted_L16 gF A x1 0 0
def mX5_counted (A : gM) (x1 : Int32) : Option (gM × Int32) := mX5_counted_b0 A x1
set_option maxHeartbeats 2000000 in
set_option maxRecDepth 20000 in
theorem wX5_counted_b45 (hN : 183 ≤ N) {A0 A' : gM} {r : Int32} (C : gC p R s m args meth c cX5_counted RX5 4 D g (va_A (gw g ad ln A0 N) s.heap.size) 1) (hr : meth.sig.returnType = some .int) {K16 : gM → Int32 → Int32 → Int32 → Option (gM × Int32)} (hK16 : ∀ {A : gM} {x1 : Int32} {x2 : Int32} {x3 : Int32}, K16 A x1 x2 x3 = some (A', r) → gJ p l e R s m args below meth c (gEi below D g N ad ln A0 A' r args s) 4 D g (va_A (gw g ad ln A0 N) s.heap.size) N ad ln A [(0, gr 0), (1, gi x1), (2, gi x2), (3, gi x3)] 0 0 16 []) {A : gM} {x1 : Int32} {x2 : Int32} {x3 : Int32} (h : mX5_counted_b45 K16 A x1 x2 x3 = some (A', r)) : gJ p l e R s m args below meth c (gEi below D g N ad ln A0 A' r args s) 4 D g (va_A (gw g ad ln A0 N) s.heap.size) N ad ln A [(0, gr 0), (1, gi x1), (2, gi x2), (3, gi x3)] 0 0 45 [] := by
  unfold mX5_counted_b45 at h
  obtain ⟨v1, ev1, h⟩ := g_lt h
  refine g_iinc C 3 dX5_counted_45 rfl ev1 (by decide) rfl ?_
  refine g_goto C dX5_counted_48 (tgt := 16) (by decide) ?_
  refine g_sub [1, 2, 3, 0] rfl ?_
  exact hK16 h

set_option maxHeartbeats 2000000 in
set_option maxRecDepth 20000 in
theorem wX5_counted_b16 (hN : 183 ≤ N) {A0 A' : gM} {r : Int32} (C : gC p R s m args meth c cX5_counted RX5 4 D g (va_A (gw g ad ln A0 N) s.heap.size) 1) (hr : meth.sig.returnType = some .int) {K16 : gM → Int32 → Int32 → Int32 → Option (gM × Int32)} (hK16 : ∀ {A : gM} {x1 : Int32} {x2 : Int32} {x3 : Int32}, K16 A x1 x2 x3 = some (A', r) → gJ p l e R s m args below meth c (gEi below D g N ad ln A0 A' r args s) 4 D g (va_A (gw g ad ln A0 N) s.heap.size) N ad ln A [(0, gr 0), (1, gi x1), (2, gi x2), (3, gi x3)] 0 0 16 []) {A : gM} {x1 : Int32} {x2 : Int32} {x3 : Int32} (h : mX5_counted_b16 K16 A x1 x2 x3 = some (A', r)) : gJ p l e R s m args below meth c (gEi below D g N ad ln A0 A' r args s) 4 D g (va_A (gw g ad ln A0 N) s.heap.size) N ad ln A [(0, gr 0), (1, gi x1), (2, gi x2), (3, gi x3)] 0 0 16 [] := by
  unfold mX5_counted_b16 at h
  refine g_iload_n C 3 dX5_counted_16 rfl ?_
  refine g_aload_n C 0 dX5_counted_17 rfl ?_
  refine g_get (v := gr 1) C 0 0 (by omega) rfl rfl gu_5 (by decide) qf_X5_10 rfl dX5_counted_18 ?_
  obtain ⟨q1, eq1, h⟩ := g_bd h
  refine g_calliV C 1 [] (kX2_made hN eq1) qs_X5_42 (by omega) (by omega) rfl rfl rfl rfl (Nat.le_of_ble_eq_true rfl) ⟨Nat.zero_le _, Nat.zero_le _⟩ dX5_counted_21 ?_
  refine g_icmp_ge C dX5_counted_24 (tgt := 51) (by decide) (fun c2 => ?_) (fun c2 => ?_)
  · have h := g_tt c2 h
    refine g_iload_n C 2 dX5_counted_51 rfl ?_
    obtain ⟨rfl, rfl⟩ := Prod.mk.inj (Option.some.inj h)
    exact g_reti C hr dX5_counted_52
  · have h := g_ff c2 h
    refine g_aload_n C 0 dX5_counted_27 rfl ?_
    refine g_get (v := gr 43) C 0 1 (by omega) rfl rfl gu_5 (by decide) qf_X5_19 rfl dX5_counted_28 ?_
    refine g_iload_n C 3 dX5_counted_31 rfl ?_
    refine g_iconst (v := 0) C dX5_counted_32 (by decide) ?_
    obtain ⟨q3, eq3, h⟩ := g_bd h
    refine g_calliV C 43 [gi x3, gi 0] (kX3_fact hN eq3) qs_X5_60 (by omega) (by omega) rfl rfl rfl rfl (Nat.le_of_ble_eq_true rfl) ⟨Nat.zero_le _, Nat.zero_le _⟩ dX5_counted_33 ?_
    refine g_iload_n C 1 dX5_counted_36 rfl ?_
    refine g_iconst (v := 1) C dX5_counted_37 (by decide) ?_
    refine g_isub C dX5_counted_38 ?_
    refine g_icmp_ne C dX5_counted_39 (tgt := 45) (by decide) (fun c4 => ?_) (fun c4 => ?_)
    · have h := g_ff c4 h
      refine g_sub [0, 1, 2, 3] rfl ?_
      exact wX5_counted_b45 hN C hr hK16 h
    · have h := g_tt c4 h
      obtain ⟨v5, ev5, h⟩ := g_lt h
      refine g_iinc C 2 dX5_counted_42 rfl ev5 (by decide) rfl ?_
      refine g_sub [1, 2, 0, 3] rfl ?_
      exact wX5_counted_b45 hN C hr hK16 h

set_option maxHeartbeats 2000000 in
set_option maxRecDepth 20000 in
theorem wX5_counted_L16 (hN : 183 ≤ N) {A0 A' : gM} {r : Int32} (C : gC p R s m args meth c cX5_counted RX5 4 D g (va_A (gw g ad ln A0 N) s.heap.size) 1) (hr : meth.sig.returnType = some .int)  : ∀ (f : Nat) {A : gM} {x1 : Int32} {x2 : Int32} {x3 : Int32}, mX5_counted_L16 f A x1 x2 x3 = some (A', r) → gJ p l e R s m args below meth c (gEi below D g N ad ln A0 A' r args s) 4 D g (va_A (gw g ad ln A0 N) s.heap.size) N ad ln A [(0, gr 0), (1, gi x1), (2, gi x2), (3, gi x3)] 0 0 16 []
  | 0, A, x1, x2, x3, h => by cases h
  | f + 1, A, x1, x2, x3, h => wX5_counted_b16 hN C hr (fun {A} {x1} {x2} {x3} h => wX5_counted_L16 hN C hr f h) h
set_option maxHeartbeats 2000000 in
set_option maxRecDepth 20000 in
theorem wX5_counted_b0 (hN : 183 ≤ N) {A0 A' : gM} {r : Int32} (C : gC p R s m args meth c cX5_counted RX5 4 D g (va_A (gw g ad ln A0 N) s.heap.size) 1) (hr : meth.sig.returnType = some .int)  {A : gM} {x1 : Int32} (h : mX5_counted_b0 A x1 = some (A', r)) : gJ p l e R s m args below meth c (gEi below D g N ad ln A0 A' r args s) 4 D g (va_A (gw g ad ln A0 N) s.heap.size) N ad ln A [(0, gr 0), (1, gi x1)] 0 0 0 [] := by
  unfold mX5_counted_b0 at h
  refine g_iload_n C 1 dX5_counted_0 rfl ?_
  refine g_if_ne C dX5_counted_1 (tgt := 12) (by decide) (fun c1 => ?_) (fun c1 => ?_)
  · have h := g_ff c1 h
    refine g_iconst (v := 0) C dX5_counted_12 (by decide) ?_
    refine g_istore_n C dX5_counted_13 (by decide) rfl ?_
    refine g_iconst (v := 0) C dX5_counted_14 (by decide) ?_
    refine g_istore_n C dX5_counted_15 (by decide) rfl ?_
    refine g_sub [2, 3, 1, 0] rfl ?_
    exact wX5_counted_L16 hN C hr gF h
  · have h := g_tt c1 h
    refine g_aload_n C 0 dX5_counted_4 rfl ?_
    refine g_get (v := gr 1) C 0 0 (by omega) rfl rfl gu_5 (by decide) qf_X5_10 rfl dX5_counted_5 ?_
    obtain ⟨q2, eq2, h⟩ := g_bd h
    refine g_calliV C 1 [] (kX2_made hN eq2) qs_X5_42 (by omega) (by omega) rfl rfl rfl rfl (Nat.le_of_ble_eq_true rfl) ⟨Nat.zero_le _, Nat.zero_le _⟩ dX5_counted_8 ?_
    obtain ⟨rfl, rfl⟩ := Prod.mk.inj (Option.some.inj h)
    exact g_reti C hr dX5_counted_11

set_option maxHeartbeats 2000000 in
set_option maxRecDepth 20000 in
theorem kX5_counted {l : Launch} {D : va_G} {g : gT} {N : Nat} {ad ln : Nat → Nat} (hN : 183 ≤ N) {A A' : gM} {x1 : Int32} {r : Int32} (h : mX5_counted A x1 = some (A', r)) : gKi l yX5_counted cX5_counted 4 (some .int) (1) D g N ad ln A [gr 0, gi x1] A' r := by
  refine g_meti (by decide) (Nat.le_of_ble_eq_true rfl) ?_
  intro p e s m args below meth c C hr
  refine g_sub [0, 1] rfl ?_
  exact wX5_counted_b0 hN C hr h
def mX5_bothTyped_b29 (A : gM) (s0 : Int32) : Option (gM × Int32) :=
  if (s0 : Int32) = 0 ∨ (s0 : Int32) = 1 then some (A, s0) else none
def mX5_bothTyped_b28 (A : gM) : Option (gM × Int32) :=
  mX5_bothTyped_b29 A 0
def mX5_bothTyped_b0 (A : gM) (x1 : Int32) (x2 : Int32) : Option (gM × Int32) :=
  (mX3_fact A x1 0).bind fun q1 =>
  if q1.2 = 0 then
  (mX3_fact q1.1 x2 0).bind fun q3 =>
  if q3.2 = 0 then
  mX5_bothTyped_b29 q3.1 1
  else
  mX5_bothTyped_b28 q3.1
  else
  mX5_bothTyped_b28 q1.1
def mX5_bothTyped (A : gM) (x1 : Int32) (x2 : Int32) : Option (gM × Int32) := mX5_bothTyped_b0 A x1 x2
set_option maxHeartbeats 2000000 in
set_option maxRecDepth 20000 in
theorem wX5_bothTyped_b29 (hN : 183 ≤ N) {A0 A' : gM} {r : Int32} (C : gC p R s m args meth c cX5_bothTyped RX5 3 D g (va_A (gw g ad ln A0 N) s.heap.size) 1) (hr : meth.sig.returnType = some .boolean)  {A : gM} {s0 : Int32} (h : mX5_bothTyped_b29 A s0 = some (A', r)) : gJ p l e R s m args below meth c (gEi below D g N ad ln A0 A' r args s) 3 D g (va_A (gw g ad ln A0 N) s.heap.size) N ad ln A [] 0 0 29 [gi s0] := by
  unfold mX5_bothTyped_b29 at h
  obtain ⟨hz1, h⟩ := g_gd h
  obtain ⟨rfl, rfl⟩ := Prod.mk.inj (Option.some.inj h)
  exact g_retz C hr hz1 dX5_bothTyped_29

set_option maxHeartbeats 2000000 in
set_option maxRecDepth 20000 in
theorem wX5_bothTyped_b28 (hN : 183 ≤ N) {A0 A' : gM} {r : Int32} (C : gC p R s m args meth c cX5_bothTyped RX5 3 D g (va_A (gw g ad ln A0 N) s.heap.size) 1) (hr : meth.sig.returnType = some .boolean)  {A : gM} (h : mX5_bothTyped_b28 A = some (A', r)) : gJ p l e R s m args below meth c (gEi below D g N ad ln A0 A' r args s) 3 D g (va_A (gw g ad ln A0 N) s.heap.size) N ad ln A [] 0 0 28 [] := by
  unfold mX5_bothTyped_b28 at h
  refine g_iconst (v := 0) C dX5_bothTyped_28 (by decide) ?_
  refine g_sub [] rfl ?_
  exact wX5_bothTyped_b29 hN C hr h

set_option maxHeartbeats 2000000 in
set_option maxRecDepth 20000 in
theorem wX5_bothTyped_b0 (hN : 183 ≤ N) {A0 A' : gM} {r : Int32} (C : gC p R s m args meth c cX5_bothTyped RX5 3 D g (va_A (gw g ad ln A0 N) s.heap.size) 1) (hr : meth.sig.returnType = some .boolean)  {A : gM} {x1 : Int32} {x2 : Int32} (h : mX5_bothTyped_b0 A x1 x2 = some (A', r)) : gJ p l e R s m args below meth c (gEi below D g N ad ln A0 A' r args s) 3 D g (va_A (gw g ad ln A0 N) s.heap.size) N ad ln A [(0, gr 0), (1, gi x1), (2, gi x2)] 0 0 0 [] := by
  unfold mX5_bothTyped_b0 at h
  refine g_aload_n C 0 dX5_bothTyped_0 rfl ?_
  refine g_get (v := gr 43) C 0 1 (by omega) rfl rfl gu_5 (by decide) qf_X5_19 rfl dX5_bothTyped_1 ?_
  refine g_iload_n C 1 dX5_bothTyped_4 rfl ?_
  refine g_iconst (v := 0) C dX5_bothTyped_5 (by decide) ?_
  obtain ⟨q1, eq1, h⟩ := g_bd h
  refine g_calliV C 43 [gi x1, gi 0] (kX3_fact hN eq1) qs_X5_60 (by omega) (by omega) rfl rfl rfl rfl (Nat.le_of_ble_eq_true rfl) ⟨Nat.zero_le _, Nat.zero_le _⟩ dX5_bothTyped_6 ?_
  refine g_if_ne C dX5_bothTyped_9 (tgt := 28) (by decide) (fun c2 => ?_) (fun c2 => ?_)
  · have h := g_ff c2 h
    refine g_sub [] rfl ?_
    exact wX5_bothTyped_b28 hN C hr h
  · have h := g_tt c2 h
    refine g_aload_n C 0 dX5_bothTyped_12 rfl ?_
    refine g_get (v := gr 43) C 0 1 (by omega) rfl rfl gu_5 (by decide) qf_X5_19 rfl dX5_bothTyped_13 ?_
    refine g_iload_n C 2 dX5_bothTyped_16 rfl ?_
    refine g_iconst (v := 0) C dX5_bothTyped_17 (by decide) ?_
    obtain ⟨q3, eq3, h⟩ := g_bd h
    refine g_calliV C 43 [gi x2, gi 0] (kX3_fact hN eq3) qs_X5_60 (by omega) (by omega) rfl rfl rfl rfl (Nat.le_of_ble_eq_true rfl) ⟨Nat.zero_le _, Nat.zero_le _⟩ dX5_bothTyped_18 ?_
    refine g_if_ne C dX5_bothTyped_21 (tgt := 28) (by decide) (fun c4 => ?_) (fun c4 => ?_)
    · have h := g_ff c4 h
      refine g_sub [] rfl ?_
      exact wX5_bothTyped_b28 hN C hr h
    · have h := g_tt c4 h
      refine g_iconst (v := 1) C dX5_bothTyped_24 (by decide) ?_
      refine g_goto C dX5_bothTyped_25 (tgt := 29) (by decide) ?_
      refine g_sub [] rfl ?_
      exact wX5_bothTyped_b29 hN C hr h

set_option maxHeartbeats 2000000 in
set_option maxRecDepth 20000 in
theorem kX5_bothTyped {l : Launch} {D : va_G} {g : gT} {N : Nat} {ad ln : Nat → Nat} (hN : 183 ≤ N) {A A' : gM} {x1 : Int32} {x2 : Int32} {r : Int32} (h : mX5_bothTyped A x1 x2 = some (A', r)) : gKi l yX5_bothTyped cX5_bothTyped 3 (some .boolean) (1) D g N ad ln A [gr 0, gi x1, gi x2] A' r := by
  refine g_meti (by decide) (Nat.le_of_ble_eq_true rfl) ?_
  intro p e s m args below meth c C hr
  refine g_sub [0, 1, 2] rfl ?_
  exact wX5_bothTyped_b0 hN C hr h
def mX5_faultOfTurning_b45 (A : gM) (s0 : Int32) : Option (gM × Int32) :=
  some (A, s0)
def mX5_faultOfTurning_b24 (A : gM) (x1 : Int32) (x2 : Int32) (x3 : Int32) : Option (gM × Int32) :=
  if x3 = 0 then
  (mX0_faultOfTurning A x1 x2).bind fun q2 =>
  mX5_faultOfTurning_b45 q2.1 q2.2
  else
  mX5_faultOfTurning_b45 A x3
def mX5_faultOfTurning_b0 (A : gM) (x1 : Int32) (x2 : Int32) : Option (gM × Int32) :=
  (mX3_fact A x1 0).bind fun q1 =>
  if q1.2 = 0 then
  (mX3_fact q1.1 x2 0).bind fun q3 =>
  mX5_faultOfTurning_b24 q3.1 x1 x2 q3.2
  else
  mX5_faultOfTurning_b24 q1.1 x1 x2 q1.2
def mX5_faultOfTurning (A : gM) (x1 : Int32) (x2 : Int32) : Option (gM × Int32) := mX5_faultOfTurning_b0 A x1 x2
set_option maxHeartbeats 2000000 in
set_option maxRecDepth 20000 in
theorem wX5_faultOfTurning_b45 (hN : 183 ≤ N) {A0 A' : gM} {r : Int32} (C : gC p R s m args meth c cX5_faultOfTurning RX5 4 D g (va_A (gw g ad ln A0 N) s.heap.size) 6) (hr : meth.sig.returnType = some .int)  {A : gM} {s0 : Int32} (h : mX5_faultOfTurning_b45 A s0 = some (A', r)) : gJ p l e R s m args below meth c (gEi below D g N ad ln A0 A' r args s) 4 D g (va_A (gw g ad ln A0 N) s.heap.size) N ad ln A [] 0 0 45 [gi s0] := by
  unfold mX5_faultOfTurning_b45 at h
  obtain ⟨rfl, rfl⟩ := Prod.mk.inj (Option.some.inj h)
  exact g_reti C hr dX5_faultOfTurning_45

set_option maxHeartbeats 2000000 in
set_option maxRecDepth 20000 in
theorem wX5_faultOfTurning_b24 (hN : 183 ≤ N) {A0 A' : gM} {r : Int32} (C : gC p R s m args meth c cX5_faultOfTurning RX5 4 D g (va_A (gw g ad ln A0 N) s.heap.size) 6) (hr : meth.sig.returnType = some .int)  {A : gM} {x1 : Int32} {x2 : Int32} {x3 : Int32} (h : mX5_faultOfTurning_b24 A x1 x2 x3 = some (A', r)) : gJ p l e R s m args below meth c (gEi below D g N ad ln A0 A' r args s) 4 D g (va_A (gw g ad ln A0 N) s.heap.size) N ad ln A [(0, gr 0), (1, gi x1), (2, gi x2), (3, gi x3)] 0 0 24 [] := by
  unfold mX5_faultOfTurning_b24 at h
  refine g_iload_n C 3 dX5_faultOfTurning_24 rfl ?_
  refine g_if_ne C dX5_faultOfTurning_25 (tgt := 44) (by decide) (fun c1 => ?_) (fun c1 => ?_)
  · have h := g_ff c1 h
    refine g_iload_n C 3 dX5_faultOfTurning_44 rfl ?_
    refine g_sub [] rfl ?_
    exact wX5_faultOfTurning_b45 hN C hr h
  · have h := g_tt c1 h
    refine g_aload_n C 0 dX5_faultOfTurning_28 rfl ?_
    refine g_get (v := gr 128) C 0 2 (by omega) rfl rfl gu_5 (by decide) qf_X5_26 rfl dX5_faultOfTurning_29 ?_
    refine g_aload_n C 0 dX5_faultOfTurning_32 rfl ?_
    refine g_get (v := gr 43) C 0 1 (by omega) rfl rfl gu_5 (by decide) qf_X5_19 rfl dX5_faultOfTurning_33 ?_
    refine g_iload_n C 1 dX5_faultOfTurning_36 rfl ?_
    refine g_iload_n C 2 dX5_faultOfTurning_37 rfl ?_
    obtain ⟨q2, eq2, h⟩ := g_bd h
    refine g_calliV C 128 [gr 43, gi x1, gi x2] (kX0_faultOfTurning hN eq2) qs_X5_102 (by omega) (by omega) rfl rfl rfl rfl (Nat.le_of_ble_eq_true rfl) ⟨Nat.zero_le _, Nat.zero_le _⟩ dX5_faultOfTurning_38 ?_
    refine g_goto C dX5_faultOfTurning_41 (tgt := 45) (by decide) ?_
    refine g_sub [] rfl ?_
    exact wX5_faultOfTurning_b45 hN C hr h

set_option maxHeartbeats 2000000 in
set_option maxRecDepth 20000 in
theorem wX5_faultOfTurning_b0 (hN : 183 ≤ N) {A0 A' : gM} {r : Int32} (C : gC p R s m args meth c cX5_faultOfTurning RX5 4 D g (va_A (gw g ad ln A0 N) s.heap.size) 6) (hr : meth.sig.returnType = some .int)  {A : gM} {x1 : Int32} {x2 : Int32} (h : mX5_faultOfTurning_b0 A x1 x2 = some (A', r)) : gJ p l e R s m args below meth c (gEi below D g N ad ln A0 A' r args s) 4 D g (va_A (gw g ad ln A0 N) s.heap.size) N ad ln A [(0, gr 0), (1, gi x1), (2, gi x2)] 0 0 0 [] := by
  unfold mX5_faultOfTurning_b0 at h
  refine g_aload_n C 0 dX5_faultOfTurning_0 rfl ?_
  refine g_get (v := gr 43) C 0 1 (by omega) rfl rfl gu_5 (by decide) qf_X5_19 rfl dX5_faultOfTurning_1 ?_
  refine g_iload_n C 1 dX5_faultOfTurning_4 rfl ?_
  refine g_iconst (v := 0) C dX5_faultOfTurning_5 (by decide) ?_
  obtain ⟨q1, eq1, h⟩ := g_bd h
  refine g_calliV C 43 [gi x1, gi 0] (kX3_fact hN eq1) qs_X5_60 (by omega) (by omega) rfl rfl rfl rfl (Nat.le_of_ble_eq_true rfl) ⟨Nat.zero_le _, Nat.zero_le _⟩ dX5_faultOfTurning_6 ?_
  refine g_istore_n C dX5_faultOfTurning_9 (by decide) rfl ?_
  refine g_iload_n C 0 dX5_faultOfTurning_10 rfl ?_
  refine g_if_ne C dX5_faultOfTurning_11 (tgt := 24) (by decide) (fun c2 => ?_) (fun c2 => ?_)
  · have h := g_ff c2 h
    refine g_sub [1, 2, 3, 0] rfl ?_
    exact wX5_faultOfTurning_b24 hN C hr h
  · have h := g_tt c2 h
    refine g_aload_n C 1 dX5_faultOfTurning_14 rfl ?_
    refine g_get (v := gr 43) C 0 1 (by omega) rfl rfl gu_5 (by decide) qf_X5_19 rfl dX5_faultOfTurning_15 ?_
    refine g_iload_n C 3 dX5_faultOfTurning_18 rfl ?_
    refine g_iconst (v := 0) C dX5_faultOfTurning_19 (by decide) ?_
    obtain ⟨q3, eq3, h⟩ := g_bd h
    refine g_calliV C 43 [gi x2, gi 0] (kX3_fact hN eq3) qs_X5_60 (by omega) (by omega) rfl rfl rfl rfl (Nat.le_of_ble_eq_true rfl) ⟨Nat.zero_le _, Nat.zero_le _⟩ dX5_faultOfTurning_20 ?_
    refine g_istore_n C dX5_faultOfTurning_23 (by decide) rfl ?_
    refine g_sub [1, 2, 3, 0] rfl ?_
    exact wX5_faultOfTurning_b24 hN C hr h

set_option maxHeartbeats 2000000 in
set_option maxRecDepth 20000 in
theorem kX5_faultOfTurning {l : Launch} {D : va_G} {g : gT} {N : Nat} {ad ln : Nat → Nat} (hN : 183 ≤ N) {A A' : gM} {x1 : Int32} {x2 : Int32} {r : Int32} (h : mX5_faultOfTurning A x1 x2 = some (A', r)) : gKi l yX5_faultOfTurning cX5_faultOfTurning 4 (some .int) (6) D g N ad ln A [gr 0, gi x1, gi x2] A' r := by
  refine g_meti (by decide) (Nat.le_of_ble_eq_true rfl) ?_
  intro p e s m args below meth c C hr
  refine g_sub [0, 1, 2] rfl ?_
  exact wX5_faultOfTurning_b0 hN C hr h
def mX5_needPlace_b9 (A : gM) : Option (gM × (Int32 ⊕ Nat)) :=
  some (A, .inr 0)
def mX5_needPlace_b0 (A : gM) (x1 : Int32) (x2 : Int32) : Option (gM × (Int32 ⊕ Nat)) :=
  if x1 < 0 then
  mX5_needPlace_b9 A
  else
  if x1 < x2 then
  some (A, .inl 0)
  else
  mX5_needPlace_b9 A
def mX5_needPlace (A : gM) (x1 : Int32) (x2 : Int32) : Option (gM × (Int32 ⊕ Nat)) := mX5_needPlace_b0 A x1 x2
set_option maxHeartbeats 2000000 in
set_option maxRecDepth 20000 in
theorem wX5_needPlace_b9 (hN : 183 ≤ N) {A0 A' : gM} {res : Int32 ⊕ Nat} (C : gC p (g_rmx 6 1 (6 * 1)) s m args meth c cX5_needPlace RX5 3 D g (va_A (gw g ad ln A0 N) s.heap.size) 6) (CX : gCX l s c (va_A (gw g ad ln A0 N) s.heap.size)) (hr : meth.sig.returnType = none)  {A : gM} (h : mX5_needPlace_b9 A = some (A', res)) : gJ p l e (g_rmx 6 1 (6 * 1)) s m args below meth c (gEXv below D g N ad ln A0 A' res 1 args s) 3 D g (va_A (gw g ad ln A0 N) s.heap.size) N ad ln A [] 0 0 9 [] := by
  unfold mX5_needPlace_b9 at h
  obtain ⟨rfl, hres⟩ := Prod.mk.inj (Option.some.inj h)
  exact g_throwv C CX 0 (by decide) qtk_X5_85 qti_0 qtg_X5_85 qtn_X5_85 qto_X5_85 hres.symm (by decide) (Nat.le_of_ble_eq_true rfl) ⟨Nat.le_of_ble_eq_true rfl, Nat.le_of_ble_eq_true rfl⟩ ⟨Nat.le_of_ble_eq_true rfl, Nat.le_of_ble_eq_true rfl⟩ dX5_needPlace_9 dX5_needPlace_12 dX5_needPlace_13 dX5_needPlace_16

set_option maxHeartbeats 2000000 in
set_option maxRecDepth 20000 in
theorem wX5_needPlace_b0 (hN : 183 ≤ N) {A0 A' : gM} {res : Int32 ⊕ Nat} (C : gC p (g_rmx 6 1 (6 * 1)) s m args meth c cX5_needPlace RX5 3 D g (va_A (gw g ad ln A0 N) s.heap.size) 6) (CX : gCX l s c (va_A (gw g ad ln A0 N) s.heap.size)) (hr : meth.sig.returnType = none)  {A : gM} {x1 : Int32} {x2 : Int32} (h : mX5_needPlace_b0 A x1 x2 = some (A', res)) : gJ p l e (g_rmx 6 1 (6 * 1)) s m args below meth c (gEXv below D g N ad ln A0 A' res 1 args s) 3 D g (va_A (gw g ad ln A0 N) s.heap.size) N ad ln A [(1, gi x1), (2, gi x2)] 0 0 0 [] := by
  unfold mX5_needPlace_b0 at h
  refine g_iload_n C 0 dX5_needPlace_0 rfl ?_
  refine g_if_lt C dX5_needPlace_1 (tgt := 9) (by decide) (fun c1 => ?_) (fun c1 => ?_)
  · have h := g_tt c1 h
    refine g_sub [] rfl ?_
    refine g_widen (k2 := 0) (n2 := 0) (Nat.le_of_ble_eq_true rfl) (Nat.le_of_ble_eq_true rfl) ?_
    exact wX5_needPlace_b9 hN C CX hr h
  · have h := g_ff c1 h
    refine g_iload_n C 0 dX5_needPlace_4 rfl ?_
    refine g_iload_n C 1 dX5_needPlace_5 rfl ?_
    refine g_icmp_lt C dX5_needPlace_6 (tgt := 17) (by decide) (fun c2 => ?_) (fun c2 => ?_)
    · have h := g_tt c2 h
      obtain ⟨rfl, hres⟩ := Prod.mk.inj (Option.some.inj h)
      exact g_retXv C hres.symm (Nat.le_of_ble_eq_true rfl) (Nat.le_of_ble_eq_true rfl) hr dX5_needPlace_17
    · have h := g_ff c2 h
      refine g_sub [] rfl ?_
      refine g_widen (k2 := 0) (n2 := 0) (Nat.le_of_ble_eq_true rfl) (Nat.le_of_ble_eq_true rfl) ?_
      exact wX5_needPlace_b9 hN C CX hr h

set_option maxHeartbeats 2000000 in
set_option maxRecDepth 20000 in
theorem kX5_needPlace {l : Launch} {D : va_G} {g : gT} {N : Nat} {ad ln : Nat → Nat} (hN : 183 ≤ N) (hl : l.stackTraces = false) {A A' : gM} {x1 : Int32} {x2 : Int32} {res : Int32 ⊕ Nat} (h : mX5_needPlace A x1 x2 = some (A', res)) : gXv l yX5_needPlace cX5_needPlace 3 (none) (6) 1 D g N ad ln A [gr 0, gi x1, gi x2] A' res := by
  refine g_metXv hl (by decide) (Nat.le_of_ble_eq_true rfl) ?_
  intro p e s m args below meth c C CX hr
  refine g_sub [1, 2] rfl ?_
  exact wX5_needPlace_b0 hN C CX hr h
def mX5_needPart_b0 (A : gM) (x1 : Int32) : Option (gM × (Int32 ⊕ Nat)) :=
  (mX2_made A).bind fun q1 =>
  (mX5_needPlace q1.1 x1 q1.2).bind fun q2 => g_tr q2 fun _ =>
  some (q2.1, .inl 0)
def mX5_needPart (A : gM) (x1 : Int32) : Option (gM × (Int32 ⊕ Nat)) := mX5_needPart_b0 A x1
set_option maxHeartbeats 2000000 in
set_option maxRecDepth 20000 in
theorem wX5_needPart_b0 (hN : 183 ≤ N) {A0 A' : gM} {res : Int32 ⊕ Nat} (C : gC p (g_rmx 7 1 (6 * 1)) s m args meth c cX5_needPart RX5 2 D g (va_A (gw g ad ln A0 N) s.heap.size) 7) (CX : gCX l s c (va_A (gw g ad ln A0 N) s.heap.size)) (hr : meth.sig.returnType = none)  {A : gM} {x1 : Int32} (h : mX5_needPart_b0 A x1 = some (A', res)) : gJ p l e (g_rmx 7 1 (6 * 1)) s m args below meth c (gEXv below D g N ad ln A0 A' res 1 args s) 2 D g (va_A (gw g ad ln A0 N) s.heap.size) N ad ln A [(0, gr 0), (1, gi x1)] 0 0 0 [] := by
  unfold mX5_needPart_b0 at h
  refine g_aload_n C 0 dX5_needPart_0 rfl ?_
  refine g_iload_n C 1 dX5_needPart_1 rfl ?_
  refine g_aload_n C 0 dX5_needPart_2 rfl ?_
  refine g_get (v := gr 1) C 0 0 (by omega) rfl rfl gu_5 (by decide) qf_X5_10 rfl dX5_needPart_3 ?_
  obtain ⟨q1, eq1, h⟩ := g_bd h
  refine g_calliV C 1 [] (kX2_made hN eq1) qs_X5_42 (by omega) (by omega) rfl rfl rfl rfl (Nat.le_of_ble_eq_true rfl) ⟨Nat.le_of_ble_eq_true rfl, Nat.le_of_ble_eq_true rfl⟩ dX5_needPart_6 ?_
  obtain ⟨q2, eq2, h⟩ := g_bd h
  refine g_callvXv C CX 0 [gi x1, gi q1.2] (kX5_needPlace hN CX.1 eq2) qs_X5_52 (by omega) (by omega) rfl rfl rfl rfl (Nat.le_of_ble_eq_true rfl) ⟨Nat.le_of_ble_eq_true rfl, Nat.le_of_ble_eq_true rfl⟩ ⟨Nat.le_of_ble_eq_true rfl, Nat.le_of_ble_eq_true rfl⟩ dX5_needPart_9 (fun k hk => g_trx h hk) (fun r3 hr3 => ?_)
  have h := g_trr h hr3
  obtain ⟨rfl, hres⟩ := Prod.mk.inj (Option.some.inj h)
  exact g_retXv C hres.symm (Nat.le_of_ble_eq_true rfl) (Nat.le_of_ble_eq_true rfl) hr dX5_needPart_12

set_option maxHeartbeats 2000000 in
set_option maxRecDepth 20000 in
theorem kX5_needPart {l : Launch} {D : va_G} {g : gT} {N : Nat} {ad ln : Nat → Nat} (hN : 183 ≤ N) (hl : l.stackTraces = false) {A A' : gM} {x1 : Int32} {res : Int32 ⊕ Nat} (h : mX5_needPart A x1 = some (A', res)) : gXv l yX5_needPart cX5_needPart 2 (none) (7) 1 D g N ad ln A [gr 0, gi x1] A' res := by
  refine g_metXv hl (by decide) (Nat.le_of_ble_eq_true rfl) ?_
  intro p e s m args below meth c C CX hr
  refine g_sub [0, 1] rfl ?_
  exact wX5_needPart_b0 hN C CX hr h
def mX5_needBetween_b10 (A : gM) : Option (gM × (Int32 ⊕ Nat)) :=
  some (A, .inr 1)
def mX5_needBetween_b0 (A : gM) (x1 : Int32) (x2 : Int32) (x3 : Int32) : Option (gM × (Int32 ⊕ Nat)) :=
  if x1 < x2 then
  mX5_needBetween_b10 A
  else
  if x1 ≤ x3 then
  some (A, .inl 0)
  else
  mX5_needBetween_b10 A
def mX5_needBetween (A : gM) (x1 : Int32) (x2 : Int32) (x3 : Int32) : Option (gM × (Int32 ⊕ Nat)) := mX5_needBetween_b0 A x1 x2 x3
set_option maxHeartbeats 2000000 in
set_option maxRecDepth 20000 in
theorem wX5_needBetween_b10 (hN : 183 ≤ N) {A0 A' : gM} {res : Int32 ⊕ Nat} (C : gC p (g_rmx 6 1 (6 * 1)) s m args meth c cX5_needBetween RX5 4 D g (va_A (gw g ad ln A0 N) s.heap.size) 6) (CX : gCX l s c (va_A (gw g ad ln A0 N) s.heap.size)) (hr : meth.sig.returnType = none)  {A : gM} (h : mX5_needBetween_b10 A = some (A', res)) : gJ p l e (g_rmx 6 1 (6 * 1)) s m args below meth c (gEXv below D g N ad ln A0 A' res 1 args s) 4 D g (va_A (gw g ad ln A0 N) s.heap.size) N ad ln A [] 0 0 10 [] := by
  unfold mX5_needBetween_b10 at h
  obtain ⟨rfl, hres⟩ := Prod.mk.inj (Option.some.inj h)
  exact g_throwv C CX 1 (by decide) qtk_X5_88 qti_1 qtg_X5_88 qtn_X5_88 qto_X5_88 hres.symm (by decide) (Nat.le_of_ble_eq_true rfl) ⟨Nat.le_of_ble_eq_true rfl, Nat.le_of_ble_eq_true rfl⟩ ⟨Nat.le_of_ble_eq_true rfl, Nat.le_of_ble_eq_true rfl⟩ dX5_needBetween_10 dX5_needBetween_13 dX5_needBetween_14 dX5_needBetween_17

set_option maxHeartbeats 2000000 in
set_option maxRecDepth 20000 in
theorem wX5_needBetween_b0 (hN : 183 ≤ N) {A0 A' : gM} {res : Int32 ⊕ Nat} (C : gC p (g_rmx 6 1 (6 * 1)) s m args meth c cX5_needBetween RX5 4 D g (va_A (gw g ad ln A0 N) s.heap.size) 6) (CX : gCX l s c (va_A (gw g ad ln A0 N) s.heap.size)) (hr : meth.sig.returnType = none)  {A : gM} {x1 : Int32} {x2 : Int32} {x3 : Int32} (h : mX5_needBetween_b0 A x1 x2 x3 = some (A', res)) : gJ p l e (g_rmx 6 1 (6 * 1)) s m args below meth c (gEXv below D g N ad ln A0 A' res 1 args s) 4 D g (va_A (gw g ad ln A0 N) s.heap.size) N ad ln A [(1, gi x1), (2, gi x2), (3, gi x3)] 0 0 0 [] := by
  unfold mX5_needBetween_b0 at h
  refine g_iload_n C 0 dX5_needBetween_0 rfl ?_
  refine g_iload_n C 1 dX5_needBetween_1 rfl ?_
  refine g_icmp_lt C dX5_needBetween_2 (tgt := 10) (by decide) (fun c1 => ?_) (fun c1 => ?_)
  · have h := g_tt c1 h
    refine g_sub [] rfl ?_
    refine g_widen (k2 := 0) (n2 := 0) (Nat.le_of_ble_eq_true rfl) (Nat.le_of_ble_eq_true rfl) ?_
    exact wX5_needBetween_b10 hN C CX hr h
  · have h := g_ff c1 h
    refine g_iload_n C 0 dX5_needBetween_5 rfl ?_
    refine g_iload_n C 2 dX5_needBetween_6 rfl ?_
    refine g_icmp_le C dX5_needBetween_7 (tgt := 18) (by decide) (fun c2 => ?_) (fun c2 => ?_)
    · have h := g_tt c2 h
      obtain ⟨rfl, hres⟩ := Prod.mk.inj (Option.some.inj h)
      exact g_retXv C hres.symm (Nat.le_of_ble_eq_true rfl) (Nat.le_of_ble_eq_true rfl) hr dX5_needBetween_18
    · have h := g_ff c2 h
      refine g_sub [] rfl ?_
      refine g_widen (k2 := 0) (n2 := 0) (Nat.le_of_ble_eq_true rfl) (Nat.le_of_ble_eq_true rfl) ?_
      exact wX5_needBetween_b10 hN C CX hr h

set_option maxHeartbeats 2000000 in
set_option maxRecDepth 20000 in
theorem kX5_needBetween {l : Launch} {D : va_G} {g : gT} {N : Nat} {ad ln : Nat → Nat} (hN : 183 ≤ N) (hl : l.stackTraces = false) {A A' : gM} {x1 : Int32} {x2 : Int32} {x3 : Int32} {res : Int32 ⊕ Nat} (h : mX5_needBetween A x1 x2 x3 = some (A', res)) : gXv l yX5_needBetween cX5_needBetween 4 (none) (6) 1 D g N ad ln A [gr 0, gi x1, gi x2, gi x3] A' res := by
  refine g_metXv hl (by decide) (Nat.le_of_ble_eq_true rfl) ?_
  intro p e s m args below meth c C CX hr
  refine g_sub [1, 2, 3] rfl ?_
  exact wX5_needBetween_b0 hN C CX hr h
def mX5_add_b33 (A : gM) : Option (gM × (Int32 ⊕ Nat)) :=
  some (A, .inr 2)
def mX5_add_b0 (A : gM) (x1 : Int32) (x2 : Int32) (x3 : Int32) (x4 : Int32) (x5 : Int32) : Option (gM × (Int32 ⊕ Nat)) :=
  (mX2_sizeOver A x3 x4 x5).bind fun q1 =>
  (mX2_made q1.1).bind fun q2 =>
  if 40 ≤ q2.2 then
  mX5_add_b33 q2.1
  else
  if q1.2 ≤ 60 then
  (mX2_append q2.1 x1 x2 x3 x4 x5).bind fun q5 =>
  (mX0_settle q5.1 q5.2).bind fun q6 =>
  some (q6, .inl q5.2)
  else
  mX5_add_b33 q2.1
def mX5_add (A : gM) (x1 : Int32) (x2 : Int32) (x3 : Int32) (x4 : Int32) (x5 : Int32) : Option (gM × (Int32 ⊕ Nat)) := mX5_add_b0 A x1 x2 x3 x4 x5
set_option maxHeartbeats 2000000 in
set_option maxRecDepth 20000 in
theorem wX5_add_b33 (hN : 183 ≤ N) {A0 A' : gM} {res : Int32 ⊕ Nat} (C : gC p (g_rmx 104 1 (6 * 1)) s m args meth c cX5_add RX5 8 D g (va_A (gw g ad ln A0 N) s.heap.size) 104) (CX : gCX l s c (va_A (gw g ad ln A0 N) s.heap.size)) (hr : meth.sig.returnType = some .int)  {A : gM} (h : mX5_add_b33 A = some (A', res)) : gJ p l e (g_rmx 104 1 (6 * 1)) s m args below meth c (gEXi below D g N ad ln A0 A' res 1 args s) 8 D g (va_A (gw g ad ln A0 N) s.heap.size) N ad ln A [] 0 0 33 [] := by
  unfold mX5_add_b33 at h
  obtain ⟨rfl, hres⟩ := Prod.mk.inj (Option.some.inj h)
  exact g_throwi C CX 2 (by decide) qtk_X5_46 qti_2 qtg_X5_46 qtn_X5_46 qto_X5_46 hres.symm (by decide) (Nat.le_of_ble_eq_true rfl) ⟨Nat.le_of_ble_eq_true rfl, Nat.le_of_ble_eq_true rfl⟩ ⟨Nat.le_of_ble_eq_true rfl, Nat.le_of_ble_eq_true rfl⟩ dX5_add_33 dX5_add_36 dX5_add_37 dX5_add_40

set_option maxHeartbeats 2000000 in
set_option maxRecDepth 20000 in
theorem wX5_add_b0 (hN : 183 ≤ N) {A0 A' : gM} {res : Int32 ⊕ Nat} (C : gC p (g_rmx 104 1 (6 * 1)) s m args meth c cX5_add RX5 8 D g (va_A (gw g ad ln A0 N) s.heap.size) 104) (CX : gCX l s c (va_A (gw g ad ln A0 N) s.heap.size)) (hr : meth.sig.returnType = some .int)  {A : gM} {x1 : Int32} {x2 : Int32} {x3 : Int32} {x4 : Int32} {x5 : Int32} (h : mX5_add_b0 A x1 x2 x3 x4 x5 = some (A', res)) : gJ p l e (g_rmx 104 1 (6 * 1)) s m args below meth c (gEXi below D g N ad ln A0 A' res 1 args s) 8 D g (va_A (gw g ad ln A0 N) s.heap.size) N ad ln A [(0, gr 0), (1, gi x1), (2, gi x2), (3, gi x3), (4, gi x4), (5, gi x5)] 0 0 0 [] := by
  unfold mX5_add_b0 at h
  refine g_aload_n C 0 dX5_add_0 rfl ?_
  refine g_get (v := gr 1) C 0 0 (by omega) rfl rfl gu_5 (by decide) qf_X5_10 rfl dX5_add_1 ?_
  refine g_iload_n C 3 dX5_add_4 rfl ?_
  refine g_iload C 4 dX5_add_5 rfl ?_
  refine g_iload C 5 dX5_add_7 rfl ?_
  obtain ⟨q1, eq1, h⟩ := g_bd h
  refine g_calliV C 1 [gi x3, gi x4, gi x5] (kX2_sizeOver hN eq1) qs_X5_91 (by omega) (by omega) rfl rfl rfl rfl (Nat.le_of_ble_eq_true rfl) ⟨Nat.le_of_ble_eq_true rfl, Nat.le_of_ble_eq_true rfl⟩ dX5_add_9 ?_
  refine g_istore C dX5_add_12 (by decide) rfl ?_
  refine g_aload_n C 1 dX5_add_14 rfl ?_
  refine g_get (v := gr 1) C 0 0 (by omega) rfl rfl gu_5 (by decide) qf_X5_10 rfl dX5_add_15 ?_
  obtain ⟨q2, eq2, h⟩ := g_bd h
  refine g_calliV C 1 [] (kX2_made hN eq2) qs_X5_42 (by omega) (by omega) rfl rfl rfl rfl (Nat.le_of_ble_eq_true rfl) ⟨Nat.le_of_ble_eq_true rfl, Nat.le_of_ble_eq_true rfl⟩ dX5_add_18 ?_
  refine g_bipush (v := 40) C dX5_add_21 (by decide) ?_
  refine g_icmp_ge C dX5_add_23 (tgt := 33) (by decide) (fun c3 => ?_) (fun c3 => ?_)
  · have h := g_tt c3 h
    refine g_sub [] rfl ?_
    refine g_widen (k2 := 0) (n2 := 0) (Nat.le_of_ble_eq_true rfl) (Nat.le_of_ble_eq_true rfl) ?_
    exact wX5_add_b33 hN C CX hr h
  · have h := g_ff c3 h
    refine g_iload C 0 dX5_add_26 rfl ?_
    refine g_bipush (v := 60) C dX5_add_28 (by decide) ?_
    refine g_icmp_le C dX5_add_30 (tgt := 41) (by decide) (fun c4 => ?_) (fun c4 => ?_)
    · have h := g_tt c4 h
      refine g_aload_n C 1 dX5_add_41 rfl ?_
      refine g_get (v := gr 1) C 0 0 (by omega) rfl rfl gu_5 (by decide) qf_X5_10 rfl dX5_add_42 ?_
      refine g_iload_n C 2 dX5_add_45 rfl ?_
      refine g_iload_n C 3 dX5_add_46 rfl ?_
      refine g_iload_n C 4 dX5_add_47 rfl ?_
      refine g_iload C 5 dX5_add_48 rfl ?_
      refine g_iload C 6 dX5_add_50 rfl ?_
      obtain ⟨q5, eq5, h⟩ := g_bd h
      refine g_calliV C 1 [gi x1, gi x2, gi x3, gi x4, gi x5] (kX2_append hN eq5) qs_X5_95 (by omega) (by omega) rfl rfl rfl rfl (Nat.le_of_ble_eq_true rfl) ⟨Nat.le_of_ble_eq_true rfl, Nat.le_of_ble_eq_true rfl⟩ dX5_add_52 ?_
      refine g_istore C dX5_add_55 (by decide) rfl ?_
      refine g_aload_n C 2 dX5_add_57 rfl ?_
      refine g_get (v := gr 128) C 0 2 (by omega) rfl rfl gu_5 (by decide) qf_X5_26 rfl dX5_add_58 ?_
      refine g_aload_n C 2 dX5_add_61 rfl ?_
      refine g_get (v := gr 1) C 0 0 (by omega) rfl rfl gu_5 (by decide) qf_X5_10 rfl dX5_add_62 ?_
      refine g_iload C 0 dX5_add_65 rfl ?_
      refine g_aload_n C 2 dX5_add_67 rfl ?_
      refine g_get (v := gr 43) C 0 1 (by omega) rfl rfl gu_5 (by decide) qf_X5_19 rfl dX5_add_68 ?_
      obtain ⟨q6, eq6, h⟩ := g_bd h
      refine g_callvV C 128 [gr 1, gi q5.2, gr 43] (kX0_settle hN eq6) qs_X5_98 (by omega) (by omega) rfl rfl rfl rfl (Nat.le_of_ble_eq_true rfl) ⟨Nat.le_of_ble_eq_true rfl, Nat.le_of_ble_eq_true rfl⟩ dX5_add_71 ?_
      refine g_iload C 0 dX5_add_74 rfl ?_
      obtain ⟨rfl, hres⟩ := Prod.mk.inj (Option.some.inj h)
      exact g_retXi C hres.symm (Nat.le_of_ble_eq_true rfl) (Nat.le_of_ble_eq_true rfl) hr dX5_add_76
    · have h := g_ff c4 h
      refine g_sub [] rfl ?_
      refine g_widen (k2 := 0) (n2 := 0) (Nat.le_of_ble_eq_true rfl) (Nat.le_of_ble_eq_true rfl) ?_
      exact wX5_add_b33 hN C CX hr h

set_option maxHeartbeats 2000000 in
set_option maxRecDepth 20000 in
theorem kX5_add {l : Launch} {D : va_G} {g : gT} {N : Nat} {ad ln : Nat → Nat} (hN : 183 ≤ N) (hl : l.stackTraces = false) {A A' : gM} {x1 : Int32} {x2 : Int32} {x3 : Int32} {x4 : Int32} {x5 : Int32} {res : Int32 ⊕ Nat} (h : mX5_add A x1 x2 x3 x4 x5 = some (A', res)) : gXi l yX5_add cX5_add 8 (some .int) (104) 1 D g N ad ln A [gr 0, gi x1, gi x2, gi x3, gi x4, gi x5] A' res := by
  refine g_metXi hl (by decide) (Nat.le_of_ble_eq_true rfl) ?_
  intro p e s m args below meth c C CX hr
  refine g_sub [0, 1, 2, 3, 4, 5] rfl ?_
  exact wX5_add_b0 hN C CX hr h
def mX5_plain_b17 (A : gM) (s1 : Int32) : Option (gM × (Int32 ⊕ Nat)) :=
  (mX5_add A s1 (-1) (-1) (-1) (-1)).bind fun q1 => g_tr q1 fun r2 =>
  some (q1.1, .inl r2)
def mX5_plain_b0 (A : gM) (x1 : Int32) : Option (gM × (Int32 ⊕ Nat)) :=
  (mX5_needBetween A x1 0 1).bind fun q1 => g_tr q1 fun _ =>
  if x1 = 0 then
  mX5_plain_b17 q1.1 0
  else
  mX5_plain_b17 q1.1 1
def mX5_plain (A : gM) (x1 : Int32) : Option (gM × (Int32 ⊕ Nat)) := mX5_plain_b0 A x1
set_option maxHeartbeats 2000000 in
set_option maxRecDepth 20000 in
theorem wX5_plain_b17 (hN : 183 ≤ N) {A0 A' : gM} {res : Int32 ⊕ Nat} (C : gC p (g_rmx 105 2 (6 * 2)) s m args meth c cX5_plain RX5 2 D g (va_A (gw g ad ln A0 N) s.heap.size) 105) (CX : gCX l s c (va_A (gw g ad ln A0 N) s.heap.size)) (hr : meth.sig.returnType = some .int)  {A : gM} {s1 : Int32} (h : mX5_plain_b17 A s1 = some (A', res)) : gJ p l e (g_rmx 105 2 (6 * 2)) s m args below meth c (gEXi below D g N ad ln A0 A' res 2 args s) 2 D g (va_A (gw g ad ln A0 N) s.heap.size) N ad ln A [] 1 6 17 [gi s1, gr 0] := by
  unfold mX5_plain_b17 at h
  refine g_iconst (v := (-1)) C dX5_plain_17 (by decide) ?_
  refine g_iconst (v := (-1)) C dX5_plain_18 (by decide) ?_
  refine g_iconst (v := (-1)) C dX5_plain_19 (by decide) ?_
  refine g_iconst (v := (-1)) C dX5_plain_20 (by decide) ?_
  obtain ⟨q1, eq1, h⟩ := g_bd h
  refine g_calliXi C CX 0 [gi s1, gi (-1), gi (-1), gi (-1), gi (-1)] (kX5_add hN CX.1 eq1) qs_X5_34 (by omega) (by omega) rfl rfl rfl rfl (Nat.le_of_ble_eq_true rfl) ⟨Nat.le_of_ble_eq_true rfl, Nat.le_of_ble_eq_true rfl⟩ ⟨Nat.le_of_ble_eq_true rfl, Nat.le_of_ble_eq_true rfl⟩ dX5_plain_21 (fun k hk => g_trx h hk) (fun r2 hr2 => ?_)
  have h := g_trr h hr2
  obtain ⟨rfl, hres⟩ := Prod.mk.inj (Option.some.inj h)
  exact g_retXi C hres.symm (Nat.le_of_ble_eq_true rfl) (Nat.le_of_ble_eq_true rfl) hr dX5_plain_24

set_option maxHeartbeats 2000000 in
set_option maxRecDepth 20000 in
theorem wX5_plain_b0 (hN : 183 ≤ N) {A0 A' : gM} {res : Int32 ⊕ Nat} (C : gC p (g_rmx 105 2 (6 * 2)) s m args meth c cX5_plain RX5 2 D g (va_A (gw g ad ln A0 N) s.heap.size) 105) (CX : gCX l s c (va_A (gw g ad ln A0 N) s.heap.size)) (hr : meth.sig.returnType = some .int)  {A : gM} {x1 : Int32} (h : mX5_plain_b0 A x1 = some (A', res)) : gJ p l e (g_rmx 105 2 (6 * 2)) s m args below meth c (gEXi below D g N ad ln A0 A' res 2 args s) 2 D g (va_A (gw g ad ln A0 N) s.heap.size) N ad ln A [(0, gr 0), (1, gi x1)] 0 0 0 [] := by
  unfold mX5_plain_b0 at h
  refine g_aload_n C 0 dX5_plain_0 rfl ?_
  refine g_iload_n C 1 dX5_plain_1 rfl ?_
  refine g_iconst (v := 0) C dX5_plain_2 (by decide) ?_
  refine g_iconst (v := 1) C dX5_plain_3 (by decide) ?_
  obtain ⟨q1, eq1, h⟩ := g_bd h
  refine g_callvXi C CX 0 [gi x1, gi 0, gi 1] (kX5_needBetween hN CX.1 eq1) qs_X5_30 (by omega) (by omega) rfl rfl rfl rfl (Nat.le_of_ble_eq_true rfl) ⟨Nat.le_of_ble_eq_true rfl, Nat.le_of_ble_eq_true rfl⟩ ⟨Nat.le_of_ble_eq_true rfl, Nat.le_of_ble_eq_true rfl⟩ dX5_plain_4 (fun k hk => g_trx h hk) (fun r2 hr2 => ?_)
  have h := g_trr h hr2
  refine g_aload_n C 0 dX5_plain_7 rfl ?_
  refine g_iload_n C 1 dX5_plain_8 rfl ?_
  refine g_if_ne C dX5_plain_9 (tgt := 16) (by decide) (fun c3 => ?_) (fun c3 => ?_)
  · have h := g_ff c3 h
    refine g_iconst (v := 1) C dX5_plain_16 (by decide) ?_
    refine g_sub [] rfl ?_
    refine g_widen (k2 := 1) (n2 := 6) (Nat.le_of_ble_eq_true rfl) (Nat.le_of_ble_eq_true rfl) ?_
    exact wX5_plain_b17 hN C CX hr h
  · have h := g_tt c3 h
    refine g_iconst (v := 0) C dX5_plain_12 (by decide) ?_
    refine g_goto C dX5_plain_13 (tgt := 17) (by decide) ?_
    refine g_sub [] rfl ?_
    refine g_widen (k2 := 1) (n2 := 6) (Nat.le_of_ble_eq_true rfl) (Nat.le_of_ble_eq_true rfl) ?_
    exact wX5_plain_b17 hN C CX hr h

set_option maxHeartbeats 2000000 in
set_option maxRecDepth 20000 in
theorem kX5_plain {l : Launch} {D : va_G} {g : gT} {N : Nat} {ad ln : Nat → Nat} (hN : 183 ≤ N) (hl : l.stackTraces = false) {A A' : gM} {x1 : Int32} {res : Int32 ⊕ Nat} (h : mX5_plain A x1 = some (A', res)) : gXi l yX5_plain cX5_plain 2 (some .int) (105) 2 D g N ad ln A [gr 0, gi x1] A' res := by
  refine g_metXi hl (by decide) (Nat.le_of_ble_eq_true rfl) ?_
  intro p e s m args below meth c C CX hr
  refine g_sub [0, 1] rfl ?_
  exact wX5_plain_b0 hN C CX hr h
def mX5_name_b0 (A : gM) (x1 : Int32) : Option (gM × (Int32 ⊕ Nat)) :=
  (mX5_needBetween A x1 0 9).bind fun q1 => g_tr q1 fun _ =>
  (mX5_add q1.1 2 x1 (-1) (-1) (-1)).bind fun q3 => g_tr q3 fun r4 =>
  some (q3.1, .inl r4)
def mX5_name (A : gM) (x1 : Int32) : Option (gM × (Int32 ⊕ Nat)) := mX5_name_b0 A x1
set_option maxHeartbeats 2000000 in
set_option maxRecDepth 20000 in
theorem wX5_name_b0 (hN : 183 ≤ N) {A0 A' : gM} {res : Int32 ⊕ Nat} (C : gC p (g_rmx 105 2 (6 * 2)) s m args meth c cX5_name RX5 2 D g (va_A (gw g ad ln A0 N) s.heap.size) 105) (CX : gCX l s c (va_A (gw g ad ln A0 N) s.heap.size)) (hr : meth.sig.returnType = some .int)  {A : gM} {x1 : Int32} (h : mX5_name_b0 A x1 = some (A', res)) : gJ p l e (g_rmx 105 2 (6 * 2)) s m args below meth c (gEXi below D g N ad ln A0 A' res 2 args s) 2 D g (va_A (gw g ad ln A0 N) s.heap.size) N ad ln A [(0, gr 0), (1, gi x1)] 0 0 0 [] := by
  unfold mX5_name_b0 at h
  refine g_aload_n C 0 dX5_name_0 rfl ?_
  refine g_iload_n C 1 dX5_name_1 rfl ?_
  refine g_iconst (v := 0) C dX5_name_2 (by decide) ?_
  refine g_bipush (v := 9) C dX5_name_3 (by decide) ?_
  obtain ⟨q1, eq1, h⟩ := g_bd h
  refine g_callvXi C CX 0 [gi x1, gi 0, gi 9] (kX5_needBetween hN CX.1 eq1) qs_X5_30 (by omega) (by omega) rfl rfl rfl rfl (Nat.le_of_ble_eq_true rfl) ⟨Nat.le_of_ble_eq_true rfl, Nat.le_of_ble_eq_true rfl⟩ ⟨Nat.le_of_ble_eq_true rfl, Nat.le_of_ble_eq_true rfl⟩ dX5_name_5 (fun k hk => g_trx h hk) (fun r2 hr2 => ?_)
  have h := g_trr h hr2
  refine g_aload_n C 0 dX5_name_8 rfl ?_
  refine g_iconst (v := 2) C dX5_name_9 (by decide) ?_
  refine g_iload_n C 1 dX5_name_10 rfl ?_
  refine g_iconst (v := (-1)) C dX5_name_11 (by decide) ?_
  refine g_iconst (v := (-1)) C dX5_name_12 (by decide) ?_
  refine g_iconst (v := (-1)) C dX5_name_13 (by decide) ?_
  obtain ⟨q3, eq3, h⟩ := g_bd h
  refine g_calliXi C CX 0 [gi 2, gi x1, gi (-1), gi (-1), gi (-1)] (kX5_add hN CX.1 eq3) qs_X5_34 (by omega) (by omega) rfl rfl rfl rfl (Nat.le_of_ble_eq_true rfl) ⟨Nat.le_of_ble_eq_true rfl, Nat.le_of_ble_eq_true rfl⟩ ⟨Nat.le_of_ble_eq_true rfl, Nat.le_of_ble_eq_true rfl⟩ dX5_name_14 (fun k hk => g_trx h hk) (fun r4 hr4 => ?_)
  have h := g_trr h hr4
  obtain ⟨rfl, hres⟩ := Prod.mk.inj (Option.some.inj h)
  exact g_retXi C hres.symm (Nat.le_of_ble_eq_true rfl) (Nat.le_of_ble_eq_true rfl) hr dX5_name_17

set_option maxHeartbeats 2000000 in
set_option maxRecDepth 20000 in
theorem kX5_name {l : Launch} {D : va_G} {g : gT} {N : Nat} {ad ln : Nat → Nat} (hN : 183 ≤ N) (hl : l.stackTraces = false) {A A' : gM} {x1 : Int32} {res : Int32 ⊕ Nat} (h : mX5_name A x1 = some (A', res)) : gXi l yX5_name cX5_name 2 (some .int) (105) 2 D g N ad ln A [gr 0, gi x1] A' res := by
  refine g_metXi hl (by decide) (Nat.le_of_ble_eq_true rfl) ?_
  intro p e s m args below meth c C CX hr
  refine g_sub [0, 1] rfl ?_
  exact wX5_name_b0 hN C CX hr h
def mX5_wheel_b0 (A : gM) (x1 : Int32) (x2 : Int32) : Option (gM × (Int32 ⊕ Nat)) :=
  (mX5_needPart A x2).bind fun q1 => g_tr q1 fun _ =>
  (mX5_needBetween q1.1 x1 0 9).bind fun q3 => g_tr q3 fun _ =>
  (mX5_add q3.1 3 x1 x2 (-1) (-1)).bind fun q5 => g_tr q5 fun r6 =>
  some (q5.1, .inl r6)
def mX5_wheel (A : gM) (x1 : Int32) (x2 : Int32) : Option (gM × (Int32 ⊕ Nat)) := mX5_wheel_b0 A x1 x2
set_option maxHeartbeats 2000000 in
set_option maxRecDepth 20000 in
theorem wX5_wheel_b0 (hN : 183 ≤ N) {A0 A' : gM} {res : Int32 ⊕ Nat} (C : gC p (g_rmx 105 3 (6 * 3)) s m args meth c cX5_wheel RX5 3 D g (va_A (gw g ad ln A0 N) s.heap.size) 105) (CX : gCX l s c (va_A (gw g ad ln A0 N) s.heap.size)) (hr : meth.sig.returnType = some .int)  {A : gM} {x1 : Int32} {x2 : Int32} (h : mX5_wheel_b0 A x1 x2 = some (A', res)) : gJ p l e (g_rmx 105 3 (6 * 3)) s m args below meth c (gEXi below D g N ad ln A0 A' res 3 args s) 3 D g (va_A (gw g ad ln A0 N) s.heap.size) N ad ln A [(0, gr 0), (1, gi x1), (2, gi x2)] 0 0 0 [] := by
  unfold mX5_wheel_b0 at h
  refine g_aload_n C 0 dX5_wheel_0 rfl ?_
  refine g_iload_n C 2 dX5_wheel_1 rfl ?_
  obtain ⟨q1, eq1, h⟩ := g_bd h
  refine g_callvXi C CX 0 [gi x2] (kX5_needPart hN CX.1 eq1) qs_X5_38 (by omega) (by omega) rfl rfl rfl rfl (Nat.le_of_ble_eq_true rfl) ⟨Nat.le_of_ble_eq_true rfl, Nat.le_of_ble_eq_true rfl⟩ ⟨Nat.le_of_ble_eq_true rfl, Nat.le_of_ble_eq_true rfl⟩ dX5_wheel_2 (fun k hk => g_trx h hk) (fun r2 hr2 => ?_)
  have h := g_trr h hr2
  refine g_aload_n C 0 dX5_wheel_5 rfl ?_
  refine g_iload_n C 1 dX5_wheel_6 rfl ?_
  refine g_iconst (v := 0) C dX5_wheel_7 (by decide) ?_
  refine g_bipush (v := 9) C dX5_wheel_8 (by decide) ?_
  obtain ⟨q3, eq3, h⟩ := g_bd h
  refine g_callvXi C CX 0 [gi x1, gi 0, gi 9] (kX5_needBetween hN CX.1 eq3) qs_X5_30 (by omega) (by omega) rfl rfl rfl rfl (Nat.le_of_ble_eq_true rfl) ⟨Nat.le_of_ble_eq_true rfl, Nat.le_of_ble_eq_true rfl⟩ ⟨Nat.le_of_ble_eq_true rfl, Nat.le_of_ble_eq_true rfl⟩ dX5_wheel_10 (fun k hk => g_trx h hk) (fun r4 hr4 => ?_)
  have h := g_trr h hr4
  refine g_aload_n C 0 dX5_wheel_13 rfl ?_
  refine g_iconst (v := 3) C dX5_wheel_14 (by decide) ?_
  refine g_iload_n C 1 dX5_wheel_15 rfl ?_
  refine g_iload_n C 2 dX5_wheel_16 rfl ?_
  refine g_iconst (v := (-1)) C dX5_wheel_17 (by decide) ?_
  refine g_iconst (v := (-1)) C dX5_wheel_18 (by decide) ?_
  obtain ⟨q5, eq5, h⟩ := g_bd h
  refine g_calliXi C CX 0 [gi 3, gi x1, gi x2, gi (-1), gi (-1)] (kX5_add hN CX.1 eq5) qs_X5_34 (by omega) (by omega) rfl rfl rfl rfl (Nat.le_of_ble_eq_true rfl) ⟨Nat.le_of_ble_eq_true rfl, Nat.le_of_ble_eq_true rfl⟩ ⟨Nat.le_of_ble_eq_true rfl, Nat.le_of_ble_eq_true rfl⟩ dX5_wheel_19 (fun k hk => g_trx h hk) (fun r6 hr6 => ?_)
  have h := g_trr h hr6
  obtain ⟨rfl, hres⟩ := Prod.mk.inj (Option.some.inj h)
  exact g_retXi C hres.symm (Nat.le_of_ble_eq_true rfl) (Nat.le_of_ble_eq_true rfl) hr dX5_wheel_22

set_option maxHeartbeats 2000000 in
set_option maxRecDepth 20000 in
theorem kX5_wheel {l : Launch} {D : va_G} {g : gT} {N : Nat} {ad ln : Nat → Nat} (hN : 183 ≤ N) (hl : l.stackTraces = false) {A A' : gM} {x1 : Int32} {x2 : Int32} {res : Int32 ⊕ Nat} (h : mX5_wheel A x1 x2 = some (A', res)) : gXi l yX5_wheel cX5_wheel 3 (some .int) (105) 3 D g N ad ln A [gr 0, gi x1, gi x2] A' res := by
  refine g_metXi hl (by decide) (Nat.le_of_ble_eq_true rfl) ?_
  intro p e s m args below meth c C CX hr
  refine g_sub [0, 1, 2] rfl ?_
  exact wX5_wheel_b0 hN C CX hr h
def mX5_turn_b0 (A : gM) (x1 : Int32) (x2 : Int32) : Option (gM × (Int32 ⊕ Nat)) :=
  (mX5_needPart A x1).bind fun q1 => g_tr q1 fun _ =>
  (mX5_needPart q1.1 x2).bind fun q3 => g_tr q3 fun _ =>
  (mX5_add q3.1 4 (-1) x1 x2 (-1)).bind fun q5 => g_tr q5 fun r6 =>
  some (q5.1, .inl r6)
def mX5_turn (A : gM) (x1 : Int32) (x2 : Int32) : Option (gM × (Int32 ⊕ Nat)) := mX5_turn_b0 A x1 x2
set_option maxHeartbeats 2000000 in
set_option maxRecDepth 20000 in
theorem wX5_turn_b0 (hN : 183 ≤ N) {A0 A' : gM} {res : Int32 ⊕ Nat} (C : gC p (g_rmx 105 3 (6 * 3)) s m args meth c cX5_turn RX5 3 D g (va_A (gw g ad ln A0 N) s.heap.size) 105) (CX : gCX l s c (va_A (gw g ad ln A0 N) s.heap.size)) (hr : meth.sig.returnType = some .int)  {A : gM} {x1 : Int32} {x2 : Int32} (h : mX5_turn_b0 A x1 x2 = some (A', res)) : gJ p l e (g_rmx 105 3 (6 * 3)) s m args below meth c (gEXi below D g N ad ln A0 A' res 3 args s) 3 D g (va_A (gw g ad ln A0 N) s.heap.size) N ad ln A [(0, gr 0), (1, gi x1), (2, gi x2)] 0 0 0 [] := by
  unfold mX5_turn_b0 at h
  refine g_aload_n C 0 dX5_turn_0 rfl ?_
  refine g_iload_n C 1 dX5_turn_1 rfl ?_
  obtain ⟨q1, eq1, h⟩ := g_bd h
  refine g_callvXi C CX 0 [gi x1] (kX5_needPart hN CX.1 eq1) qs_X5_38 (by omega) (by omega) rfl rfl rfl rfl (Nat.le_of_ble_eq_true rfl) ⟨Nat.le_of_ble_eq_true rfl, Nat.le_of_ble_eq_true rfl⟩ ⟨Nat.le_of_ble_eq_true rfl, Nat.le_of_ble_eq_true rfl⟩ dX5_turn_2 (fun k hk => g_trx h hk) (fun r2 hr2 => ?_)
  have h := g_trr h hr2
  refine g_aload_n C 0 dX5_turn_5 rfl ?_
  refine g_iload_n C 2 dX5_turn_6 rfl ?_
  obtain ⟨q3, eq3, h⟩ := g_bd h
  refine g_callvXi C CX 0 [gi x2] (kX5_needPart hN CX.1 eq3) qs_X5_38 (by omega) (by omega) rfl rfl rfl rfl (Nat.le_of_ble_eq_true rfl) ⟨Nat.le_of_ble_eq_true rfl, Nat.le_of_ble_eq_true rfl⟩ ⟨Nat.le_of_ble_eq_true rfl, Nat.le_of_ble_eq_true rfl⟩ dX5_turn_7 (fun k hk => g_trx h hk) (fun r4 hr4 => ?_)
  have h := g_trr h hr4
  refine g_aload_n C 0 dX5_turn_10 rfl ?_
  refine g_iconst (v := 4) C dX5_turn_11 (by decide) ?_
  refine g_iconst (v := (-1)) C dX5_turn_12 (by decide) ?_
  refine g_iload_n C 1 dX5_turn_13 rfl ?_
  refine g_iload_n C 2 dX5_turn_14 rfl ?_
  refine g_iconst (v := (-1)) C dX5_turn_15 (by decide) ?_
  obtain ⟨q5, eq5, h⟩ := g_bd h
  refine g_calliXi C CX 0 [gi 4, gi (-1), gi x1, gi x2, gi (-1)] (kX5_add hN CX.1 eq5) qs_X5_34 (by omega) (by omega) rfl rfl rfl rfl (Nat.le_of_ble_eq_true rfl) ⟨Nat.le_of_ble_eq_true rfl, Nat.le_of_ble_eq_true rfl⟩ ⟨Nat.le_of_ble_eq_true rfl, Nat.le_of_ble_eq_true rfl⟩ dX5_turn_16 (fun k hk => g_trx h hk) (fun r6 hr6 => ?_)
  have h := g_trr h hr6
  obtain ⟨rfl, hres⟩ := Prod.mk.inj (Option.some.inj h)
  exact g_retXi C hres.symm (Nat.le_of_ble_eq_true rfl) (Nat.le_of_ble_eq_true rfl) hr dX5_turn_19

set_option maxHeartbeats 2000000 in
set_option maxRecDepth 20000 in
theorem kX5_turn {l : Launch} {D : va_G} {g : gT} {N : Nat} {ad ln : Nat → Nat} (hN : 183 ≤ N) (hl : l.stackTraces = false) {A A' : gM} {x1 : Int32} {x2 : Int32} {res : Int32 ⊕ Nat} (h : mX5_turn A x1 x2 = some (A', res)) : gXi l yX5_turn cX5_turn 3 (some .int) (105) 3 D g N ad ln A [gr 0, gi x1, gi x2] A' res := by
  refine g_metXi hl (by decide) (Nat.le_of_ble_eq_true rfl) ?_
  intro p e s m args below meth c C CX hr
  refine g_sub [0, 1, 2] rfl ?_
  exact wX5_turn_b0 hN C CX hr h
def mX5_tell_b0 (A : gM) (x1 : Int32) (x2 : Int32) (x3 : Int32) : Option (gM × (Int32 ⊕ Nat)) :=
  (mX5_needPart A x2).bind fun q1 => g_tr q1 fun _ =>
  (mX5_needPart q1.1 x3).bind fun q3 => g_tr q3 fun _ =>
  (mX5_needBetween q3.1 x1 0 9).bind fun q5 => g_tr q5 fun _ =>
  (mX5_add q5.1 5 x1 x2 x3 (-1)).bind fun q7 => g_tr q7 fun r8 =>
  some (q7.1, .inl r8)
def mX5_tell (A : gM) (x1 : Int32) (x2 : Int32) (x3 : Int32) : Option (gM × (Int32 ⊕ Nat)) := mX5_tell_b0 A x1 x2 x3
set_option maxHeartbeats 2000000 in
set_option maxRecDepth 20000 in
theorem wX5_tell_b0 (hN : 183 ≤ N) {A0 A' : gM} {res : Int32 ⊕ Nat} (C : gC p (g_rmx 105 4 (6 * 4)) s m args meth c cX5_tell RX5 4 D g (va_A (gw g ad ln A0 N) s.heap.size) 105) (CX : gCX l s c (va_A (gw g ad ln A0 N) s.heap.size)) (hr : meth.sig.returnType = some .int)  {A : gM} {x1 : Int32} {x2 : Int32} {x3 : Int32} (h : mX5_tell_b0 A x1 x2 x3 = some (A', res)) : gJ p l e (g_rmx 105 4 (6 * 4)) s m args below meth c (gEXi below D g N ad ln A0 A' res 4 args s) 4 D g (va_A (gw g ad ln A0 N) s.heap.size) N ad ln A [(0, gr 0), (1, gi x1), (2, gi x2), (3, gi x3)] 0 0 0 [] := by
  unfold mX5_tell_b0 at h
  refine g_aload_n C 0 dX5_tell_0 rfl ?_
  refine g_iload_n C 2 dX5_tell_1 rfl ?_
  obtain ⟨q1, eq1, h⟩ := g_bd h
  refine g_callvXi C CX 0 [gi x2] (kX5_needPart hN CX.1 eq1) qs_X5_38 (by omega) (by omega) rfl rfl rfl rfl (Nat.le_of_ble_eq_true rfl) ⟨Nat.le_of_ble_eq_true rfl, Nat.le_of_ble_eq_true rfl⟩ ⟨Nat.le_of_ble_eq_true rfl, Nat.le_of_ble_eq_true rfl⟩ dX5_tell_2 (fun k hk => g_trx h hk) (fun r2 hr2 => ?_)
  have h := g_trr h hr2
  refine g_aload_n C 0 dX5_tell_5 rfl ?_
  refine g_iload_n C 3 dX5_tell_6 rfl ?_
  obtain ⟨q3, eq3, h⟩ := g_bd h
  refine g_callvXi C CX 0 [gi x3] (kX5_needPart hN CX.1 eq3) qs_X5_38 (by omega) (by omega) rfl rfl rfl rfl (Nat.le_of_ble_eq_true rfl) ⟨Nat.le_of_ble_eq_true rfl, Nat.le_of_ble_eq_true rfl⟩ ⟨Nat.le_of_ble_eq_true rfl, Nat.le_of_ble_eq_true rfl⟩ dX5_tell_7 (fun k hk => g_trx h hk) (fun r4 hr4 => ?_)
  have h := g_trr h hr4
  refine g_aload_n C 0 dX5_tell_10 rfl ?_
  refine g_iload_n C 1 dX5_tell_11 rfl ?_
  refine g_iconst (v := 0) C dX5_tell_12 (by decide) ?_
  refine g_bipush (v := 9) C dX5_tell_13 (by decide) ?_
  obtain ⟨q5, eq5, h⟩ := g_bd h
  refine g_callvXi C CX 0 [gi x1, gi 0, gi 9] (kX5_needBetween hN CX.1 eq5) qs_X5_30 (by omega) (by omega) rfl rfl rfl rfl (Nat.le_of_ble_eq_true rfl) ⟨Nat.le_of_ble_eq_true rfl, Nat.le_of_ble_eq_true rfl⟩ ⟨Nat.le_of_ble_eq_true rfl, Nat.le_of_ble_eq_true rfl⟩ dX5_tell_15 (fun k hk => g_trx h hk) (fun r6 hr6 => ?_)
  have h := g_trr h hr6
  refine g_aload_n C 0 dX5_tell_18 rfl ?_
  refine g_iconst (v := 5) C dX5_tell_19 (by decide) ?_
  refine g_iload_n C 1 dX5_tell_20 rfl ?_
  refine g_iload_n C 2 dX5_tell_21 rfl ?_
  refine g_iload_n C 3 dX5_tell_22 rfl ?_
  refine g_iconst (v := (-1)) C dX5_tell_23 (by decide) ?_
  obtain ⟨q7, eq7, h⟩ := g_bd h
  refine g_calliXi C CX 0 [gi 5, gi x1, gi x2, gi x3, gi (-1)] (kX5_add hN CX.1 eq7) qs_X5_34 (by omega) (by omega) rfl rfl rfl rfl (Nat.le_of_ble_eq_true rfl) ⟨Nat.le_of_ble_eq_true rfl, Nat.le_of_ble_eq_true rfl⟩ ⟨Nat.le_of_ble_eq_true rfl, Nat.le_of_ble_eq_true rfl⟩ dX5_tell_24 (fun k hk => g_trx h hk) (fun r8 hr8 => ?_)
  have h := g_trr h hr8
  obtain ⟨rfl, hres⟩ := Prod.mk.inj (Option.some.inj h)
  exact g_retXi C hres.symm (Nat.le_of_ble_eq_true rfl) (Nat.le_of_ble_eq_true rfl) hr dX5_tell_27

set_option maxHeartbeats 2000000 in
set_option maxRecDepth 20000 in
theorem kX5_tell {l : Launch} {D : va_G} {g : gT} {N : Nat} {ad ln : Nat → Nat} (hN : 183 ≤ N) (hl : l.stackTraces = false) {A A' : gM} {x1 : Int32} {x2 : Int32} {x3 : Int32} {res : Int32 ⊕ Nat} (h : mX5_tell A x1 x2 x3 = some (A', res)) : gXi l yX5_tell cX5_tell 4 (some .int) (105) 4 D g N ad ln A [gr 0, gi x1, gi x2, gi x3] A' res := by
  refine g_metXi hl (by decide) (Nat.le_of_ble_eq_true rfl) ?_
  intro p e s m args below meth c C CX hr
  refine g_sub [0, 1, 2, 3] rfl ?_
  exact wX5_tell_b0 hN C CX hr h
def mX5_axle_b0 (A : gM) (x1 : Int32) (x2 : Int32) : Option (gM × (Int32 ⊕ Nat)) :=
  (mX5_needPart A x1).bind fun q1 => g_tr q1 fun _ =>
  (mX5_needPart q1.1 x2).bind fun q3 => g_tr q3 fun _ =>
  (mX5_add q3.1 6 (-1) x1 x2 (-1)).bind fun q5 => g_tr q5 fun r6 =>
  some (q5.1, .inl r6)
def mX5_axle (A : gM) (x1 : Int32) (x2 : Int32) : Option (gM × (Int32 ⊕ Nat)) := mX5_axle_b0 A x1 x2
set_option maxHeartbeats 2000000 in
set_option maxRecDepth 20000 in
theorem wX5_axle_b0 (hN : 183 ≤ N) {A0 A' : gM} {res : Int32 ⊕ Nat} (C : gC p (g_rmx 105 3 (6 * 3)) s m args meth c cX5_axle RX5 3 D g (va_A (gw g ad ln A0 N) s.heap.size) 105) (CX : gCX l s c (va_A (gw g ad ln A0 N) s.heap.size)) (hr : meth.sig.returnType = some .int)  {A : gM} {x1 : Int32} {x2 : Int32} (h : mX5_axle_b0 A x1 x2 = some (A', res)) : gJ p l e (g_rmx 105 3 (6 * 3)) s m args below meth c (gEXi below D g N ad ln A0 A' res 3 args s) 3 D g (va_A (gw g ad ln A0 N) s.heap.size) N ad ln A [(0, gr 0), (1, gi x1), (2, gi x2)] 0 0 0 [] := by
  unfold mX5_axle_b0 at h
  refine g_aload_n C 0 dX5_axle_0 rfl ?_
  refine g_iload_n C 1 dX5_axle_1 rfl ?_
  obtain ⟨q1, eq1, h⟩ := g_bd h
  refine g_callvXi C CX 0 [gi x1] (kX5_needPart hN CX.1 eq1) qs_X5_38 (by omega) (by omega) rfl rfl rfl rfl (Nat.le_of_ble_eq_true rfl) ⟨Nat.le_of_ble_eq_true rfl, Nat.le_of_ble_eq_true rfl⟩ ⟨Nat.le_of_ble_eq_true rfl, Nat.le_of_ble_eq_true rfl⟩ dX5_axle_2 (fun k hk => g_trx h hk) (fun r2 hr2 => ?_)
  have h := g_trr h hr2
  refine g_aload_n C 0 dX5_axle_5 rfl ?_
  refine g_iload_n C 2 dX5_axle_6 rfl ?_
  obtain ⟨q3, eq3, h⟩ := g_bd h
  refine g_callvXi C CX 0 [gi x2] (kX5_needPart hN CX.1 eq3) qs_X5_38 (by omega) (by omega) rfl rfl rfl rfl (Nat.le_of_ble_eq_true rfl) ⟨Nat.le_of_ble_eq_true rfl, Nat.le_of_ble_eq_true rfl⟩ ⟨Nat.le_of_ble_eq_true rfl, Nat.le_of_ble_eq_true rfl⟩ dX5_axle_7 (fun k hk => g_trx h hk) (fun r4 hr4 => ?_)
  have h := g_trr h hr4
  refine g_aload_n C 0 dX5_axle_10 rfl ?_
  refine g_bipush (v := 6) C dX5_axle_11 (by decide) ?_
  refine g_iconst (v := (-1)) C dX5_axle_13 (by decide) ?_
  refine g_iload_n C 1 dX5_axle_14 rfl ?_
  refine g_iload_n C 2 dX5_axle_15 rfl ?_
  refine g_iconst (v := (-1)) C dX5_axle_16 (by decide) ?_
  obtain ⟨q5, eq5, h⟩ := g_bd h
  refine g_calliXi C CX 0 [gi 6, gi (-1), gi x1, gi x2, gi (-1)] (kX5_add hN CX.1 eq5) qs_X5_34 (by omega) (by omega) rfl rfl rfl rfl (Nat.le_of_ble_eq_true rfl) ⟨Nat.le_of_ble_eq_true rfl, Nat.le_of_ble_eq_true rfl⟩ ⟨Nat.le_of_ble_eq_true rfl, Nat.le_of_ble_eq_true rfl⟩ dX5_axle_17 (fun k hk => g_trx h hk) (fun r6 hr6 => ?_)
  have h := g_trr h hr6
  obtain ⟨rfl, hres⟩ := Prod.mk.inj (Option.some.inj h)
  exact g_retXi C hres.symm (Nat.le_of_ble_eq_true rfl) (Nat.le_of_ble_eq_true rfl) hr dX5_axle_20

set_option maxHeartbeats 2000000 in
set_option maxRecDepth 20000 in
theorem kX5_axle {l : Launch} {D : va_G} {g : gT} {N : Nat} {ad ln : Nat → Nat} (hN : 183 ≤ N) (hl : l.stackTraces = false) {A A' : gM} {x1 : Int32} {x2 : Int32} {res : Int32 ⊕ Nat} (h : mX5_axle A x1 x2 = some (A', res)) : gXi l yX5_axle cX5_axle 3 (some .int) (105) 3 D g N ad ln A [gr 0, gi x1, gi x2] A' res := by
  refine g_metXi hl (by decide) (Nat.le_of_ble_eq_true rfl) ?_
  intro p e s m args below meth c C CX hr
  refine g_sub [0, 1, 2] rfl ?_
  exact wX5_axle_b0 hN C CX hr h
def mX5_end_b0 (A : gM) (x1 : Int32) (x2 : Int32) : Option (gM × (Int32 ⊕ Nat)) :=
  (mX5_needPart A x1).bind fun q1 => g_tr q1 fun _ =>
  (mX5_needBetween q1.1 x2 0 1).bind fun q3 => g_tr q3 fun _ =>
  (mX5_add q3.1 7 x2 x1 (-1) (-1)).bind fun q5 => g_tr q5 fun r6 =>
  some (q5.1, .inl r6)
def mX5_end (A : gM) (x1 : Int32) (x2 : Int32) : Option (gM × (Int32 ⊕ Nat)) := mX5_end_b0 A x1 x2
set_option maxHeartbeats 2000000 in
set_option maxRecDepth 20000 in
theorem wX5_end_b0 (hN : 183 ≤ N) {A0 A' : gM} {res : Int32 ⊕ Nat} (C : gC p (g_rmx 105 3 (6 * 3)) s m args meth c cX5_end RX5 3 D g (va_A (gw g ad ln A0 N) s.heap.size) 105) (CX : gCX l s c (va_A (gw g ad ln A0 N) s.heap.size)) (hr : meth.sig.returnType = some .int)  {A : gM} {x1 : Int32} {x2 : Int32} (h : mX5_end_b0 A x1 x2 = some (A', res)) : gJ p l e (g_rmx 105 3 (6 * 3)) s m args below meth c (gEXi below D g N ad ln A0 A' res 3 args s) 3 D g (va_A (gw g ad ln A0 N) s.heap.size) N ad ln A [(0, gr 0), (1, gi x1), (2, gi x2)] 0 0 0 [] := by
  unfold mX5_end_b0 at h
  refine g_aload_n C 0 dX5_end_0 rfl ?_
  refine g_iload_n C 1 dX5_end_1 rfl ?_
  obtain ⟨q1, eq1, h⟩ := g_bd h
  refine g_callvXi C CX 0 [gi x1] (kX5_needPart hN CX.1 eq1) qs_X5_38 (by omega) (by omega) rfl rfl rfl rfl (Nat.le_of_ble_eq_true rfl) ⟨Nat.le_of_ble_eq_true rfl, Nat.le_of_ble_eq_true rfl⟩ ⟨Nat.le_of_ble_eq_true rfl, Nat.le_of_ble_eq_true rfl⟩ dX5_end_2 (fun k hk => g_trx h hk) (fun r2 hr2 => ?_)
  have h := g_trr h hr2
  refine g_aload_n C 0 dX5_end_5 rfl ?_
  refine g_iload_n C 2 dX5_end_6 rfl ?_
  refine g_iconst (v := 0) C dX5_end_7 (by decide) ?_
  refine g_iconst (v := 1) C dX5_end_8 (by decide) ?_
  obtain ⟨q3, eq3, h⟩ := g_bd h
  refine g_callvXi C CX 0 [gi x2, gi 0, gi 1] (kX5_needBetween hN CX.1 eq3) qs_X5_30 (by omega) (by omega) rfl rfl rfl rfl (Nat.le_of_ble_eq_true rfl) ⟨Nat.le_of_ble_eq_true rfl, Nat.le_of_ble_eq_true rfl⟩ ⟨Nat.le_of_ble_eq_true rfl, Nat.le_of_ble_eq_true rfl⟩ dX5_end_9 (fun k hk => g_trx h hk) (fun r4 hr4 => ?_)
  have h := g_trr h hr4
  refine g_aload_n C 0 dX5_end_12 rfl ?_
  refine g_bipush (v := 7) C dX5_end_13 (by decide) ?_
  refine g_iload_n C 2 dX5_end_15 rfl ?_
  refine g_iload_n C 1 dX5_end_16 rfl ?_
  refine g_iconst (v := (-1)) C dX5_end_17 (by decide) ?_
  refine g_iconst (v := (-1)) C dX5_end_18 (by decide) ?_
  obtain ⟨q5, eq5, h⟩ := g_bd h
  refine g_calliXi C CX 0 [gi 7, gi x2, gi x1, gi (-1), gi (-1)] (kX5_add hN CX.1 eq5) qs_X5_34 (by omega) (by omega) rfl rfl rfl rfl (Nat.le_of_ble_eq_true rfl) ⟨Nat.le_of_ble_eq_true rfl, Nat.le_of_ble_eq_true rfl⟩ ⟨Nat.le_of_ble_eq_true rfl, Nat.le_of_ble_eq_true rfl⟩ dX5_end_19 (fun k hk => g_trx h hk) (fun r6 hr6 => ?_)
  have h := g_trr h hr6
  obtain ⟨rfl, hres⟩ := Prod.mk.inj (Option.some.inj h)
  exact g_retXi C hres.symm (Nat.le_of_ble_eq_true rfl) (Nat.le_of_ble_eq_true rfl) hr dX5_end_22

set_option maxHeartbeats 2000000 in
set_option maxRecDepth 20000 in
theorem kX5_end {l : Launch} {D : va_G} {g : gT} {N : Nat} {ad ln : Nat → Nat} (hN : 183 ≤ N) (hl : l.stackTraces = false) {A A' : gM} {x1 : Int32} {x2 : Int32} {res : Int32 ⊕ Nat} (h : mX5_end A x1 x2 = some (A', res)) : gXi l yX5_end cX5_end 3 (some .int) (105) 3 D g N ad ln A [gr 0, gi x1, gi x2] A' res := by
  refine g_metXi hl (by decide) (Nat.le_of_ble_eq_true rfl) ?_
  intro p e s m args below meth c C CX hr
  refine g_sub [0, 1, 2] rfl ?_
  exact wX5_end_b0 hN C CX hr h
def mX5_either_b0 (A : gM) (x1 : Int32) (x2 : Int32) (x3 : Int32) : Option (gM × (Int32 ⊕ Nat)) :=
  (mX5_needPart A x1).bind fun q1 => g_tr q1 fun _ =>
  (mX5_needPart q1.1 x2).bind fun q3 => g_tr q3 fun _ =>
  (mX5_needPart q3.1 x3).bind fun q5 => g_tr q5 fun _ =>
  (mX5_add q5.1 8 (-1) x1 x2 x3).bind fun q7 => g_tr q7 fun r8 =>
  some (q7.1, .inl r8)
def mX5_either (A : gM) (x1 : Int32) (x2 : Int32) (x3 : Int32) : Option (gM × (Int32 ⊕ Nat)) := mX5_either_b0 A x1 x2 x3
set_option maxHeartbeats 2000000 in
set_option maxRecDepth 20000 in
theorem wX5_either_b0 (hN : 183 ≤ N) {A0 A' : gM} {res : Int32 ⊕ Nat} (C : gC p (g_rmx 105 4 (6 * 4)) s m args meth c cX5_either RX5 4 D g (va_A (gw g ad ln A0 N) s.heap.size) 105) (CX : gCX l s c (va_A (gw g ad ln A0 N) s.heap.size)) (hr : meth.sig.returnType = some .int)  {A : gM} {x1 : Int32} {x2 : Int32} {x3 : Int32} (h : mX5_either_b0 A x1 x2 x3 = some (A', res)) : gJ p l e (g_rmx 105 4 (6 * 4)) s m args below meth c (gEXi below D g N ad ln A0 A' res 4 args s) 4 D g (va_A (gw g ad ln A0 N) s.heap.size) N ad ln A [(0, gr 0), (1, gi x1), (2, gi x2), (3, gi x3)] 0 0 0 [] := by
  unfold mX5_either_b0 at h
  refine g_aload_n C 0 dX5_either_0 rfl ?_
  refine g_iload_n C 1 dX5_either_1 rfl ?_
  obtain ⟨q1, eq1, h⟩ := g_bd h
  refine g_callvXi C CX 0 [gi x1] (kX5_needPart hN CX.1 eq1) qs_X5_38 (by omega) (by omega) rfl rfl rfl rfl (Nat.le_of_ble_eq_true rfl) ⟨Nat.le_of_ble_eq_true rfl, Nat.le_of_ble_eq_true rfl⟩ ⟨Nat.le_of_ble_eq_true rfl, Nat.le_of_ble_eq_true rfl⟩ dX5_either_2 (fun k hk => g_trx h hk) (fun r2 hr2 => ?_)
  have h := g_trr h hr2
  refine g_aload_n C 0 dX5_either_5 rfl ?_
  refine g_iload_n C 2 dX5_either_6 rfl ?_
  obtain ⟨q3, eq3, h⟩ := g_bd h
  refine g_callvXi C CX 0 [gi x2] (kX5_needPart hN CX.1 eq3) qs_X5_38 (by omega) (by omega) rfl rfl rfl rfl (Nat.le_of_ble_eq_true rfl) ⟨Nat.le_of_ble_eq_true rfl, Nat.le_of_ble_eq_true rfl⟩ ⟨Nat.le_of_ble_eq_true rfl, Nat.le_of_ble_eq_true rfl⟩ dX5_either_7 (fun k hk => g_trx h hk) (fun r4 hr4 => ?_)
  have h := g_trr h hr4
  refine g_aload_n C 0 dX5_either_10 rfl ?_
  refine g_iload_n C 3 dX5_either_11 rfl ?_
  obtain ⟨q5, eq5, h⟩ := g_bd h
  refine g_callvXi C CX 0 [gi x3] (kX5_needPart hN CX.1 eq5) qs_X5_38 (by omega) (by omega) rfl rfl rfl rfl (Nat.le_of_ble_eq_true rfl) ⟨Nat.le_of_ble_eq_true rfl, Nat.le_of_ble_eq_true rfl⟩ ⟨Nat.le_of_ble_eq_true rfl, Nat.le_of_ble_eq_true rfl⟩ dX5_either_12 (fun k hk => g_trx h hk) (fun r6 hr6 => ?_)
  have h := g_trr h hr6
  refine g_aload_n C 0 dX5_either_15 rfl ?_
  refine g_bipush (v := 8) C dX5_either_16 (by decide) ?_
  refine g_iconst (v := (-1)) C dX5_either_18 (by decide) ?_
  refine g_iload_n C 1 dX5_either_19 rfl ?_
  refine g_iload_n C 2 dX5_either_20 rfl ?_
  refine g_iload_n C 3 dX5_either_21 rfl ?_
  obtain ⟨q7, eq7, h⟩ := g_bd h
  refine g_calliXi C CX 0 [gi 8, gi (-1), gi x1, gi x2, gi x3] (kX5_add hN CX.1 eq7) qs_X5_34 (by omega) (by omega) rfl rfl rfl rfl (Nat.le_of_ble_eq_true rfl) ⟨Nat.le_of_ble_eq_true rfl, Nat.le_of_ble_eq_true rfl⟩ ⟨Nat.le_of_ble_eq_true rfl, Nat.le_of_ble_eq_true rfl⟩ dX5_either_22 (fun k hk => g_trx h hk) (fun r8 hr8 => ?_)
  have h := g_trr h hr8
  obtain ⟨rfl, hres⟩ := Prod.mk.inj (Option.some.inj h)
  exact g_retXi C hres.symm (Nat.le_of_ble_eq_true rfl) (Nat.le_of_ble_eq_true rfl) hr dX5_either_25

set_option maxHeartbeats 2000000 in
set_option maxRecDepth 20000 in
theorem kX5_either {l : Launch} {D : va_G} {g : gT} {N : Nat} {ad ln : Nat → Nat} (hN : 183 ≤ N) (hl : l.stackTraces = false) {A A' : gM} {x1 : Int32} {x2 : Int32} {x3 : Int32} {res : Int32 ⊕ Nat} (h : mX5_either A x1 x2 x3 = some (A', res)) : gXi l yX5_either cX5_either 4 (some .int) (105) 4 D g N ad ln A [gr 0, gi x1, gi x2, gi x3] A' res := by
  refine g_metXi hl (by decide) (Nat.le_of_ble_eq_true rfl) ?_
  intro p e s m args below meth c C CX hr
  refine g_sub [0, 1, 2, 3] rfl ?_
  exact wX5_either_b0 hN C CX hr h
def mX5_undo_b0 (A : gM) : Option (gM × (Int32 ⊕ Nat)) :=
  (mX2_made A).bind fun q1 =>
  g_let (q1.2 - 1) fun v2 =>
  if 0 ≤ v2 then
  (mX2_dropLast q1.1).bind fun q4 =>
  some (q4, .inl v2)
  else
  some (q1.1, .inr 2)
def mX5_undo (A : gM) : Option (gM × (Int32 ⊕ Nat)) := mX5_undo_b0 A
set_option maxHeartbeats 2000000 in
set_option maxRecDepth 20000 in
theorem wX5_undo_b0 (hN : 183 ≤ N) {A0 A' : gM} {res : Int32 ⊕ Nat} (C : gC p (g_rmx 6 1 (6 * 1)) s m args meth c cX5_undo RX5 2 D g (va_A (gw g ad ln A0 N) s.heap.size) 6) (CX : gCX l s c (va_A (gw g ad ln A0 N) s.heap.size)) (hr : meth.sig.returnType = some .int)  {A : gM} (h : mX5_undo_b0 A = some (A', res)) : gJ p l e (g_rmx 6 1 (6 * 1)) s m args below meth c (gEXi below D g N ad ln A0 A' res 1 args s) 2 D g (va_A (gw g ad ln A0 N) s.heap.size) N ad ln A [(0, gr 0)] 0 0 0 [] := by
  unfold mX5_undo_b0 at h
  refine g_aload_n C 0 dX5_undo_0 rfl ?_
  refine g_get (v := gr 1) C 0 0 (by omega) rfl rfl gu_5 (by decide) qf_X5_10 rfl dX5_undo_1 ?_
  obtain ⟨q1, eq1, h⟩ := g_bd h
  refine g_calliV C 1 [] (kX2_made hN eq1) qs_X5_42 (by omega) (by omega) rfl rfl rfl rfl (Nat.le_of_ble_eq_true rfl) ⟨Nat.le_of_ble_eq_true rfl, Nat.le_of_ble_eq_true rfl⟩ dX5_undo_4 ?_
  refine g_iconst (v := 1) C dX5_undo_7 (by decide) ?_
  refine g_isub C dX5_undo_8 ?_
  obtain ⟨v2, ev2, h⟩ := g_lt h
  refine g_topi ev2 ?_
  refine g_istore_n C dX5_undo_9 (by decide) rfl ?_
  refine g_iload_n C 0 dX5_undo_10 rfl ?_
  refine g_if_ge C dX5_undo_11 (tgt := 22) (by decide) (fun c3 => ?_) (fun c3 => ?_)
  · have h := g_tt c3 h
    refine g_aload_n C 1 dX5_undo_22 rfl ?_
    refine g_get (v := gr 1) C 0 0 (by omega) rfl rfl gu_5 (by decide) qf_X5_10 rfl dX5_undo_23 ?_
    obtain ⟨q4, eq4, h⟩ := g_bd h
    refine g_callvV C 1 [] (kX2_dropLast hN eq4) qs_X5_49 (by omega) (by omega) rfl rfl rfl rfl (Nat.le_of_ble_eq_true rfl) ⟨Nat.le_of_ble_eq_true rfl, Nat.le_of_ble_eq_true rfl⟩ dX5_undo_26 ?_
    refine g_iload_n C 0 dX5_undo_29 rfl ?_
    obtain ⟨rfl, hres⟩ := Prod.mk.inj (Option.some.inj h)
    exact g_retXi C hres.symm (Nat.le_of_ble_eq_true rfl) (Nat.le_of_ble_eq_true rfl) hr dX5_undo_30
  · have h := g_ff c3 h
    obtain ⟨rfl, hres⟩ := Prod.mk.inj (Option.some.inj h)
    exact g_throwi C CX 2 (by decide) qtk_X5_46 qti_2 qtg_X5_46 qtn_X5_46 qto_X5_46 hres.symm (by decide) (Nat.le_of_ble_eq_true rfl) ⟨Nat.le_of_ble_eq_true rfl, Nat.le_of_ble_eq_true rfl⟩ ⟨Nat.le_of_ble_eq_true rfl, Nat.le_of_ble_eq_true rfl⟩ dX5_undo_14 dX5_undo_17 dX5_undo_18 dX5_undo_21

set_option maxHeartbeats 2000000 in
set_option maxRecDepth 20000 in
theorem kX5_undo {l : Launch} {D : va_G} {g : gT} {N : Nat} {ad ln : Nat → Nat} (hN : 183 ≤ N) (hl : l.stackTraces = false) {A A' : gM} {res : Int32 ⊕ Nat} (h : mX5_undo A = some (A', res)) : gXi l yX5_undo cX5_undo 2 (some .int) (6) 1 D g N ad ln A [gr 0] A' res := by
  refine g_metXi hl (by decide) (Nat.le_of_ble_eq_true rfl) ?_
  intro p e s m args below meth c C CX hr
  refine g_sub [0] rfl ?_
  exact wX5_undo_b0 hN C CX hr h
def mX5_part_b0 (A : gM) (x1 : Int32) (x2 : Int32) : Option (gM × (Int32 ⊕ Nat)) :=
  (mX5_needPart A x1).bind fun q1 => g_tr q1 fun _ =>
  (mX5_needPlace q1.1 x2 7).bind fun q3 => g_tr q3 fun _ =>
  (mX2_fact q3.1 x1 x2).bind fun q5 =>
  some (q5.1, .inl q5.2)
def mX5_part (A : gM) (x1 : Int32) (x2 : Int32) : Option (gM × (Int32 ⊕ Nat)) := mX5_part_b0 A x1 x2
set_option maxHeartbeats 2000000 in
set_option maxRecDepth 20000 in
theorem wX5_part_b0 (hN : 183 ≤ N) {A0 A' : gM} {res : Int32 ⊕ Nat} (C : gC p (g_rmx 8 2 (6 * 2)) s m args meth c cX5_part RX5 3 D g (va_A (gw g ad ln A0 N) s.heap.size) 8) (CX : gCX l s c (va_A (gw g ad ln A0 N) s.heap.size)) (hr : meth.sig.returnType = some .int)  {A : gM} {x1 : Int32} {x2 : Int32} (h : mX5_part_b0 A x1 x2 = some (A', res)) : gJ p l e (g_rmx 8 2 (6 * 2)) s m args below meth c (gEXi below D g N ad ln A0 A' res 2 args s) 3 D g (va_A (gw g ad ln A0 N) s.heap.size) N ad ln A [(0, gr 0), (1, gi x1), (2, gi x2)] 0 0 0 [] := by
  unfold mX5_part_b0 at h
  refine g_aload_n C 0 dX5_part_0 rfl ?_
  refine g_iload_n C 1 dX5_part_1 rfl ?_
  obtain ⟨q1, eq1, h⟩ := g_bd h
  refine g_callvXi C CX 0 [gi x1] (kX5_needPart hN CX.1 eq1) qs_X5_38 (by omega) (by omega) rfl rfl rfl rfl (Nat.le_of_ble_eq_true rfl) ⟨Nat.le_of_ble_eq_true rfl, Nat.le_of_ble_eq_true rfl⟩ ⟨Nat.le_of_ble_eq_true rfl, Nat.le_of_ble_eq_true rfl⟩ dX5_part_2 (fun k hk => g_trx h hk) (fun r2 hr2 => ?_)
  have h := g_trr h hr2
  refine g_aload_n C 0 dX5_part_5 rfl ?_
  refine g_iload_n C 2 dX5_part_6 rfl ?_
  refine g_bipush (v := 7) C dX5_part_7 (by decide) ?_
  obtain ⟨q3, eq3, h⟩ := g_bd h
  refine g_callvXi C CX 0 [gi x2, gi 7] (kX5_needPlace hN CX.1 eq3) qs_X5_52 (by omega) (by omega) rfl rfl rfl rfl (Nat.le_of_ble_eq_true rfl) ⟨Nat.le_of_ble_eq_true rfl, Nat.le_of_ble_eq_true rfl⟩ ⟨Nat.le_of_ble_eq_true rfl, Nat.le_of_ble_eq_true rfl⟩ dX5_part_9 (fun k hk => g_trx h hk) (fun r4 hr4 => ?_)
  have h := g_trr h hr4
  refine g_aload_n C 0 dX5_part_12 rfl ?_
  refine g_get (v := gr 1) C 0 0 (by omega) rfl rfl gu_5 (by decide) qf_X5_10 rfl dX5_part_13 ?_
  refine g_iload_n C 1 dX5_part_16 rfl ?_
  refine g_iload_n C 2 dX5_part_17 rfl ?_
  obtain ⟨q5, eq5, h⟩ := g_bd h
  refine g_calliV C 1 [gi x1, gi x2] (kX2_fact hN eq5) qs_X5_56 (by omega) (by omega) rfl rfl rfl rfl (Nat.le_of_ble_eq_true rfl) ⟨Nat.le_of_ble_eq_true rfl, Nat.le_of_ble_eq_true rfl⟩ dX5_part_18 ?_
  obtain ⟨rfl, hres⟩ := Prod.mk.inj (Option.some.inj h)
  exact g_retXi C hres.symm (Nat.le_of_ble_eq_true rfl) (Nat.le_of_ble_eq_true rfl) hr dX5_part_21

set_option maxHeartbeats 2000000 in
set_option maxRecDepth 20000 in
theorem kX5_part {l : Launch} {D : va_G} {g : gT} {N : Nat} {ad ln : Nat → Nat} (hN : 183 ≤ N) (hl : l.stackTraces = false) {A A' : gM} {x1 : Int32} {x2 : Int32} {res : Int32 ⊕ Nat} (h : mX5_part A x1 x2 = some (A', res)) : gXi l yX5_part cX5_part 3 (some .int) (8) 2 D g N ad ln A [gr 0, gi x1, gi x2] A' res := by
  refine g_metXi hl (by decide) (Nat.le_of_ble_eq_true rfl) ?_
  intro p e s m args below meth c C CX hr
  refine g_sub [0, 1, 2] rfl ?_
  exact wX5_part_b0 hN C CX hr h
def mX5_type_b0 (A : gM) (x1 : Int32) (x2 : Int32) : Option (gM × (Int32 ⊕ Nat)) :=
  (mX5_needPart A x1).bind fun q1 => g_tr q1 fun _ =>
  (mX5_needPlace q1.1 x2 5).bind fun q3 => g_tr q3 fun _ =>
  (mX3_fact q3.1 x1 x2).bind fun q5 =>
  some (q5.1, .inl q5.2)
def mX5_type (A : gM) (x1 : Int32) (x2 : Int32) : Option (gM × (Int32 ⊕ Nat)) := mX5_type_b0 A x1 x2
set_option maxHeartbeats 2000000 in
set_option maxRecDepth 20000 in
theorem wX5_type_b0 (hN : 183 ≤ N) {A0 A' : gM} {res : Int32 ⊕ Nat} (C : gC p (g_rmx 8 2 (6 * 2)) s m args meth c cX5_type RX5 3 D g (va_A (gw g ad ln A0 N) s.heap.size) 8) (CX : gCX l s c (va_A (gw g ad ln A0 N) s.heap.size)) (hr : meth.sig.returnType = some .int)  {A : gM} {x1 : Int32} {x2 : Int32} (h : mX5_type_b0 A x1 x2 = some (A', res)) : gJ p l e (g_rmx 8 2 (6 * 2)) s m args below meth c (gEXi below D g N ad ln A0 A' res 2 args s) 3 D g (va_A (gw g ad ln A0 N) s.heap.size) N ad ln A [(0, gr 0), (1, gi x1), (2, gi x2)] 0 0 0 [] := by
  unfold mX5_type_b0 at h
  refine g_aload_n C 0 dX5_type_0 rfl ?_
  refine g_iload_n C 1 dX5_type_1 rfl ?_
  obtain ⟨q1, eq1, h⟩ := g_bd h
  refine g_callvXi C CX 0 [gi x1] (kX5_needPart hN CX.1 eq1) qs_X5_38 (by omega) (by omega) rfl rfl rfl rfl (Nat.le_of_ble_eq_true rfl) ⟨Nat.le_of_ble_eq_true rfl, Nat.le_of_ble_eq_true rfl⟩ ⟨Nat.le_of_ble_eq_true rfl, Nat.le_of_ble_eq_true rfl⟩ dX5_type_2 (fun k hk => g_trx h hk) (fun r2 hr2 => ?_)
  have h := g_trr h hr2
  refine g_aload_n C 0 dX5_type_5 rfl ?_
  refine g_iload_n C 2 dX5_type_6 rfl ?_
  refine g_iconst (v := 5) C dX5_type_7 (by decide) ?_
  obtain ⟨q3, eq3, h⟩ := g_bd h
  refine g_callvXi C CX 0 [gi x2, gi 5] (kX5_needPlace hN CX.1 eq3) qs_X5_52 (by omega) (by omega) rfl rfl rfl rfl (Nat.le_of_ble_eq_true rfl) ⟨Nat.le_of_ble_eq_true rfl, Nat.le_of_ble_eq_true rfl⟩ ⟨Nat.le_of_ble_eq_true rfl, Nat.le_of_ble_eq_true rfl⟩ dX5_type_8 (fun k hk => g_trx h hk) (fun r4 hr4 => ?_)
  have h := g_trr h hr4
  refine g_aload_n C 0 dX5_type_11 rfl ?_
  refine g_get (v := gr 43) C 0 1 (by omega) rfl rfl gu_5 (by decide) qf_X5_19 rfl dX5_type_12 ?_
  refine g_iload_n C 1 dX5_type_15 rfl ?_
  refine g_iload_n C 2 dX5_type_16 rfl ?_
  obtain ⟨q5, eq5, h⟩ := g_bd h
  refine g_calliV C 43 [gi x1, gi x2] (kX3_fact hN eq5) qs_X5_60 (by omega) (by omega) rfl rfl rfl rfl (Nat.le_of_ble_eq_true rfl) ⟨Nat.le_of_ble_eq_true rfl, Nat.le_of_ble_eq_true rfl⟩ dX5_type_17 ?_
  obtain ⟨rfl, hres⟩ := Prod.mk.inj (Option.some.inj h)
  exact g_retXi C hres.symm (Nat.le_of_ble_eq_true rfl) (Nat.le_of_ble_eq_true rfl) hr dX5_type_20

set_option maxHeartbeats 2000000 in
set_option maxRecDepth 20000 in
theorem kX5_type {l : Launch} {D : va_G} {g : gT} {N : Nat} {ad ln : Nat → Nat} (hN : 183 ≤ N) (hl : l.stackTraces = false) {A A' : gM} {x1 : Int32} {x2 : Int32} {res : Int32 ⊕ Nat} (h : mX5_type A x1 x2 = some (A', res)) : gXi l yX5_type cX5_type 3 (some .int) (8) 2 D g N ad ln A [gr 0, gi x1, gi x2] A' res := by
  refine g_metXi hl (by decide) (Nat.le_of_ble_eq_true rfl) ?_
  intro p e s m args below meth c C CX hr
  refine g_sub [0, 1, 2] rfl ?_
  exact wX5_type_b0 hN C CX hr h
def mX5_code_b0 (A : gM) (x1 : Int32) (x2 : Int32) : Option (gM × (Int32 ⊕ Nat)) :=
  (mX5_needPart A x1).bind fun q1 => g_tr q1 fun _ =>
  (mX3_fact q1.1 x1 2).bind fun q3 =>
  (mX5_needPlace q3.1 x2 q3.2).bind fun q4 => g_tr q4 fun _ =>
  (mX3_codeAt q4.1 x1 x2).bind fun q6 =>
  some (q6.1, .inl q6.2)
def mX5_code (A : gM) (x1 : Int32) (x2 : Int32) : Option (gM × (Int32 ⊕ Nat)) := mX5_code_b0 A x1 x2
set_option maxHeartbeats 2000000 in
set_option maxRecDepth 20000 in
theorem wX5_code_b0 (hN : 183 ≤ N) {A0 A' : gM} {res : Int32 ⊕ Nat} (C : gC p (g_rmx 8 2 (6 * 2)) s m args meth c cX5_code RX5 3 D g (va_A (gw g ad ln A0 N) s.heap.size) 8) (CX : gCX l s c (va_A (gw g ad ln A0 N) s.heap.size)) (hr : meth.sig.returnType = some .int)  {A : gM} {x1 : Int32} {x2 : Int32} (h : mX5_code_b0 A x1 x2 = some (A', res)) : gJ p l e (g_rmx 8 2 (6 * 2)) s m args below meth c (gEXi below D g N ad ln A0 A' res 2 args s) 3 D g (va_A (gw g ad ln A0 N) s.heap.size) N ad ln A [(0, gr 0), (1, gi x1), (2, gi x2)] 0 0 0 [] := by
  unfold mX5_code_b0 at h
  refine g_aload_n C 0 dX5_code_0 rfl ?_
  refine g_iload_n C 1 dX5_code_1 rfl ?_
  obtain ⟨q1, eq1, h⟩ := g_bd h
  refine g_callvXi C CX 0 [gi x1] (kX5_needPart hN CX.1 eq1) qs_X5_38 (by omega) (by omega) rfl rfl rfl rfl (Nat.le_of_ble_eq_true rfl) ⟨Nat.le_of_ble_eq_true rfl, Nat.le_of_ble_eq_true rfl⟩ ⟨Nat.le_of_ble_eq_true rfl, Nat.le_of_ble_eq_true rfl⟩ dX5_code_2 (fun k hk => g_trx h hk) (fun r2 hr2 => ?_)
  have h := g_trr h hr2
  refine g_aload_n C 0 dX5_code_5 rfl ?_
  refine g_iload_n C 2 dX5_code_6 rfl ?_
  refine g_aload_n C 0 dX5_code_7 rfl ?_
  refine g_get (v := gr 43) C 0 1 (by omega) rfl rfl gu_5 (by decide) qf_X5_19 rfl dX5_code_8 ?_
  refine g_iload_n C 1 dX5_code_11 rfl ?_
  refine g_iconst (v := 2) C dX5_code_12 (by decide) ?_
  obtain ⟨q3, eq3, h⟩ := g_bd h
  refine g_calliV C 43 [gi x1, gi 2] (kX3_fact hN eq3) qs_X5_60 (by omega) (by omega) rfl rfl rfl rfl (Nat.le_of_ble_eq_true rfl) ⟨Nat.le_of_ble_eq_true rfl, Nat.le_of_ble_eq_true rfl⟩ dX5_code_13 ?_
  obtain ⟨q4, eq4, h⟩ := g_bd h
  refine g_callvXi C CX 0 [gi x2, gi q3.2] (kX5_needPlace hN CX.1 eq4) qs_X5_52 (by omega) (by omega) rfl rfl rfl rfl (Nat.le_of_ble_eq_true rfl) ⟨Nat.le_of_ble_eq_true rfl, Nat.le_of_ble_eq_true rfl⟩ ⟨Nat.le_of_ble_eq_true rfl, Nat.le_of_ble_eq_true rfl⟩ dX5_code_16 (fun k hk => g_trx h hk) (fun r5 hr5 => ?_)
  have h := g_trr h hr5
  refine g_aload_n C 0 dX5_code_19 rfl ?_
  refine g_get (v := gr 43) C 0 1 (by omega) rfl rfl gu_5 (by decide) qf_X5_19 rfl dX5_code_20 ?_
  refine g_iload_n C 1 dX5_code_23 rfl ?_
  refine g_iload_n C 2 dX5_code_24 rfl ?_
  obtain ⟨q6, eq6, h⟩ := g_bd h
  refine g_calliV C 43 [gi x1, gi x2] (kX3_codeAt hN eq6) qs_X5_61 (by omega) (by omega) rfl rfl rfl rfl (Nat.le_of_ble_eq_true rfl) ⟨Nat.le_of_ble_eq_true rfl, Nat.le_of_ble_eq_true rfl⟩ dX5_code_25 ?_
  obtain ⟨rfl, hres⟩ := Prod.mk.inj (Option.some.inj h)
  exact g_retXi C hres.symm (Nat.le_of_ble_eq_true rfl) (Nat.le_of_ble_eq_true rfl) hr dX5_code_28

set_option maxHeartbeats 2000000 in
set_option maxRecDepth 20000 in
theorem kX5_code {l : Launch} {D : va_G} {g : gT} {N : Nat} {ad ln : Nat → Nat} (hN : 183 ≤ N) (hl : l.stackTraces = false) {A A' : gM} {x1 : Int32} {x2 : Int32} {res : Int32 ⊕ Nat} (h : mX5_code A x1 x2 = some (A', res)) : gXi l yX5_code cX5_code 3 (some .int) (8) 2 D g N ad ln A [gr 0, gi x1, gi x2] A' res := by
  refine g_metXi hl (by decide) (Nat.le_of_ble_eq_true rfl) ?_
  intro p e s m args below meth c C CX hr
  refine g_sub [0, 1, 2] rfl ?_
  exact wX5_code_b0 hN C CX hr h
def mX5_count_b0 (A : gM) (x1 : Int32) : Option (gM × (Int32 ⊕ Nat)) :=
  (mX5_needPlace A x1 6).bind fun q1 => g_tr q1 fun _ =>
  (mX5_counted q1.1 x1).bind fun q3 =>
  some (q3.1, .inl q3.2)
def mX5_count (A : gM) (x1 : Int32) : Option (gM × (Int32 ⊕ Nat)) := mX5_count_b0 A x1
set_option maxHeartbeats 2000000 in
set_option maxRecDepth 20000 in
theorem wX5_count_b0 (hN : 183 ≤ N) {A0 A' : gM} {res : Int32 ⊕ Nat} (C : gC p (g_rmx 7 1 (6 * 1)) s m args meth c cX5_count RX5 2 D g (va_A (gw g ad ln A0 N) s.heap.size) 7) (CX : gCX l s c (va_A (gw g ad ln A0 N) s.heap.size)) (hr : meth.sig.returnType = some .int)  {A : gM} {x1 : Int32} (h : mX5_count_b0 A x1 = some (A', res)) : gJ p l e (g_rmx 7 1 (6 * 1)) s m args below meth c (gEXi below D g N ad ln A0 A' res 1 args s) 2 D g (va_A (gw g ad ln A0 N) s.heap.size) N ad ln A [(0, gr 0), (1, gi x1)] 0 0 0 [] := by
  unfold mX5_count_b0 at h
  refine g_aload_n C 0 dX5_count_0 rfl ?_
  refine g_iload_n C 1 dX5_count_1 rfl ?_
  refine g_bipush (v := 6) C dX5_count_2 (by decide) ?_
  obtain ⟨q1, eq1, h⟩ := g_bd h
  refine g_callvXi C CX 0 [gi x1, gi 6] (kX5_needPlace hN CX.1 eq1) qs_X5_52 (by omega) (by omega) rfl rfl rfl rfl (Nat.le_of_ble_eq_true rfl) ⟨Nat.le_of_ble_eq_true rfl, Nat.le_of_ble_eq_true rfl⟩ ⟨Nat.le_of_ble_eq_true rfl, Nat.le_of_ble_eq_true rfl⟩ dX5_count_4 (fun k hk => g_trx h hk) (fun r2 hr2 => ?_)
  have h := g_trr h hr2
  refine g_aload_n C 0 dX5_count_7 rfl ?_
  refine g_iload_n C 1 dX5_count_8 rfl ?_
  obtain ⟨q3, eq3, h⟩ := g_bd h
  refine g_calliV C 0 [gi x1] (kX5_counted hN eq3) qs_X5_64 (by omega) (by omega) rfl rfl rfl rfl (Nat.le_of_ble_eq_true rfl) ⟨Nat.le_of_ble_eq_true rfl, Nat.le_of_ble_eq_true rfl⟩ dX5_count_9 ?_
  obtain ⟨rfl, hres⟩ := Prod.mk.inj (Option.some.inj h)
  exact g_retXi C hres.symm (Nat.le_of_ble_eq_true rfl) (Nat.le_of_ble_eq_true rfl) hr dX5_count_12

set_option maxHeartbeats 2000000 in
set_option maxRecDepth 20000 in
theorem kX5_count {l : Launch} {D : va_G} {g : gT} {N : Nat} {ad ln : Nat → Nat} (hN : 183 ≤ N) (hl : l.stackTraces = false) {A A' : gM} {x1 : Int32} {res : Int32 ⊕ Nat} (h : mX5_count A x1 = some (A', res)) : gXi l yX5_count cX5_count 2 (some .int) (7) 1 D g N ad ln A [gr 0, gi x1] A' res := by
  refine g_metXi hl (by decide) (Nat.le_of_ble_eq_true rfl) ?_
  intro p e s m args below meth c C CX hr
  refine g_sub [0, 1] rfl ?_
  exact wX5_count_b0 hN C CX hr h
def mX5_same_b36 (A : gM) (s0 : Int32) : Option (gM × (Int32 ⊕ Nat)) :=
  if (s0 : Int32) = 0 ∨ (s0 : Int32) = 1 then some (A, .inl s0) else none
def mX5_same_b35 (A : gM) : Option (gM × (Int32 ⊕ Nat)) :=
  mX5_same_b36 A 0
def mX5_same_b0 (A : gM) (x1 : Int32) (x2 : Int32) : Option (gM × (Int32 ⊕ Nat)) :=
  (mX5_needPart A x1).bind fun q1 => g_tr q1 fun _ =>
  (mX5_needPart q1.1 x2).bind fun q3 => g_tr q3 fun _ =>
  (mX5_bothTyped q3.1 x1 x2).bind fun q5 =>
  if q5.2 = 0 then
  mX5_same_b35 q5.1
  else
  (mX3_alike q5.1 x1 x2).bind fun q7 =>
  if q7.2 = 0 then
  mX5_same_b35 q7.1
  else
  mX5_same_b36 q7.1 1
def mX5_same (A : gM) (x1 : Int32) (x2 : Int32) : Option (gM × (Int32 ⊕ Nat)) := mX5_same_b0 A x1 x2
set_option maxHeartbeats 2000000 in
set_option maxRecDepth 20000 in
theorem wX5_same_b36 (hN : 183 ≤ N) {A0 A' : gM} {res : Int32 ⊕ Nat} (C : gC p (g_rmx 8 2 (6 * 2)) s m args meth c cX5_same RX5 3 D g (va_A (gw g ad ln A0 N) s.heap.size) 8) (CX : gCX l s c (va_A (gw g ad ln A0 N) s.heap.size)) (hr : meth.sig.returnType = some .boolean)  {A : gM} {s0 : Int32} (h : mX5_same_b36 A s0 = some (A', res)) : gJ p l e (g_rmx 8 2 (6 * 2)) s m args below meth c (gEXi below D g N ad ln A0 A' res 2 args s) 3 D g (va_A (gw g ad ln A0 N) s.heap.size) N ad ln A [] 2 12 36 [gi s0] := by
  unfold mX5_same_b36 at h
  obtain ⟨hz1, h⟩ := g_gd h
  obtain ⟨rfl, hres⟩ := Prod.mk.inj (Option.some.inj h)
  exact g_retXz C hres.symm (Nat.le_of_ble_eq_true rfl) (Nat.le_of_ble_eq_true rfl) hr hz1 dX5_same_36

set_option maxHeartbeats 2000000 in
set_option maxRecDepth 20000 in
theorem wX5_same_b35 (hN : 183 ≤ N) {A0 A' : gM} {res : Int32 ⊕ Nat} (C : gC p (g_rmx 8 2 (6 * 2)) s m args meth c cX5_same RX5 3 D g (va_A (gw g ad ln A0 N) s.heap.size) 8) (CX : gCX l s c (va_A (gw g ad ln A0 N) s.heap.size)) (hr : meth.sig.returnType = some .boolean)  {A : gM} (h : mX5_same_b35 A = some (A', res)) : gJ p l e (g_rmx 8 2 (6 * 2)) s m args below meth c (gEXi below D g N ad ln A0 A' res 2 args s) 3 D g (va_A (gw g ad ln A0 N) s.heap.size) N ad ln A [] 2 12 35 [] := by
  unfold mX5_same_b35 at h
  refine g_iconst (v := 0) C dX5_same_35 (by decide) ?_
  refine g_sub [] rfl ?_
  refine g_widen (k2 := 2) (n2 := 12) (Nat.le_of_ble_eq_true rfl) (Nat.le_of_ble_eq_true rfl) ?_
  exact wX5_same_b36 hN C CX hr h

set_option maxHeartbeats 2000000 in
set_option maxRecDepth 20000 in
theorem wX5_same_b0 (hN : 183 ≤ N) {A0 A' : gM} {res : Int32 ⊕ Nat} (C : gC p (g_rmx 8 2 (6 * 2)) s m args meth c cX5_same RX5 3 D g (va_A (gw g ad ln A0 N) s.heap.size) 8) (CX : gCX l s c (va_A (gw g ad ln A0 N) s.heap.size)) (hr : meth.sig.returnType = some .boolean)  {A : gM} {x1 : Int32} {x2 : Int32} (h : mX5_same_b0 A x1 x2 = some (A', res)) : gJ p l e (g_rmx 8 2 (6 * 2)) s m args below meth c (gEXi below D g N ad ln A0 A' res 2 args s) 3 D g (va_A (gw g ad ln A0 N) s.heap.size) N ad ln A [(0, gr 0), (1, gi x1), (2, gi x2)] 0 0 0 [] := by
  unfold mX5_same_b0 at h
  refine g_aload_n C 0 dX5_same_0 rfl ?_
  refine g_iload_n C 1 dX5_same_1 rfl ?_
  obtain ⟨q1, eq1, h⟩ := g_bd h
  refine g_callvXi C CX 0 [gi x1] (kX5_needPart hN CX.1 eq1) qs_X5_38 (by omega) (by omega) rfl rfl rfl rfl (Nat.le_of_ble_eq_true rfl) ⟨Nat.le_of_ble_eq_true rfl, Nat.le_of_ble_eq_true rfl⟩ ⟨Nat.le_of_ble_eq_true rfl, Nat.le_of_ble_eq_true rfl⟩ dX5_same_2 (fun k hk => g_trx h hk) (fun r2 hr2 => ?_)
  have h := g_trr h hr2
  refine g_aload_n C 0 dX5_same_5 rfl ?_
  refine g_iload_n C 2 dX5_same_6 rfl ?_
  obtain ⟨q3, eq3, h⟩ := g_bd h
  refine g_callvXi C CX 0 [gi x2] (kX5_needPart hN CX.1 eq3) qs_X5_38 (by omega) (by omega) rfl rfl rfl rfl (Nat.le_of_ble_eq_true rfl) ⟨Nat.le_of_ble_eq_true rfl, Nat.le_of_ble_eq_true rfl⟩ ⟨Nat.le_of_ble_eq_true rfl, Nat.le_of_ble_eq_true rfl⟩ dX5_same_7 (fun k hk => g_trx h hk) (fun r4 hr4 => ?_)
  have h := g_trr h hr4
  refine g_aload_n C 0 dX5_same_10 rfl ?_
  refine g_iload_n C 1 dX5_same_11 rfl ?_
  refine g_iload_n C 2 dX5_same_12 rfl ?_
  obtain ⟨q5, eq5, h⟩ := g_bd h
  refine g_calliV C 0 [gi x1, gi x2] (kX5_bothTyped hN eq5) qs_X5_68 (by omega) (by omega) rfl rfl rfl rfl (Nat.le_of_ble_eq_true rfl) ⟨Nat.le_of_ble_eq_true rfl, Nat.le_of_ble_eq_true rfl⟩ dX5_same_13 ?_
  refine g_if_eq C dX5_same_16 (tgt := 35) (by decide) (fun c6 => ?_) (fun c6 => ?_)
  · have h := g_tt c6 h
    refine g_sub [] rfl ?_
    refine g_widen (k2 := 2) (n2 := 12) (Nat.le_of_ble_eq_true rfl) (Nat.le_of_ble_eq_true rfl) ?_
    exact wX5_same_b35 hN C CX hr h
  · have h := g_ff c6 h
    refine g_aload_n C 0 dX5_same_19 rfl ?_
    refine g_get (v := gr 43) C 0 1 (by omega) rfl rfl gu_5 (by decide) qf_X5_19 rfl dX5_same_20 ?_
    refine g_iload_n C 1 dX5_same_23 rfl ?_
    refine g_iload_n C 2 dX5_same_24 rfl ?_
    obtain ⟨q7, eq7, h⟩ := g_bd h
    refine g_calliV C 43 [gi x1, gi x2] (kX3_alike hN eq7) qs_X5_72 (by omega) (by omega) rfl rfl rfl rfl (Nat.le_of_ble_eq_true rfl) ⟨Nat.le_of_ble_eq_true rfl, Nat.le_of_ble_eq_true rfl⟩ dX5_same_25 ?_
    refine g_if_eq C dX5_same_28 (tgt := 35) (by decide) (fun c8 => ?_) (fun c8 => ?_)
    · have h := g_tt c8 h
      refine g_sub [] rfl ?_
      refine g_widen (k2 := 2) (n2 := 12) (Nat.le_of_ble_eq_true rfl) (Nat.le_of_ble_eq_true rfl) ?_
      exact wX5_same_b35 hN C CX hr h
    · have h := g_ff c8 h
      refine g_iconst (v := 1) C dX5_same_31 (by decide) ?_
      refine g_goto C dX5_same_32 (tgt := 36) (by decide) ?_
      refine g_sub [] rfl ?_
      refine g_widen (k2 := 2) (n2 := 12) (Nat.le_of_ble_eq_true rfl) (Nat.le_of_ble_eq_true rfl) ?_
      exact wX5_same_b36 hN C CX hr h

set_option maxHeartbeats 2000000 in
set_option maxRecDepth 20000 in
theorem kX5_same {l : Launch} {D : va_G} {g : gT} {N : Nat} {ad ln : Nat → Nat} (hN : 183 ≤ N) (hl : l.stackTraces = false) {A A' : gM} {x1 : Int32} {x2 : Int32} {res : Int32 ⊕ Nat} (h : mX5_same A x1 x2 = some (A', res)) : gXi l yX5_same cX5_same 3 (some .boolean) (8) 2 D g N ad ln A [gr 0, gi x1, gi x2] A' res := by
  refine g_metXi hl (by decide) (Nat.le_of_ble_eq_true rfl) ?_
  intro p e s m args below meth c C CX hr
  refine g_sub [0, 1, 2] rfl ?_
  exact wX5_same_b0 hN C CX hr h
def mX5_goes_b0 (A : gM) (x1 : Int32) (x2 : Int32) : Option (gM × (Int32 ⊕ Nat)) :=
  (mX5_needPart A x1).bind fun q1 => g_tr q1 fun _ =>
  (mX5_needPart q1.1 x2).bind fun q3 => g_tr q3 fun _ =>
  (mX5_faultOfTurning q3.1 x1 x2).bind fun q5 =>
  some (q5.1, .inl q5.2)
def mX5_goes (A : gM) (x1 : Int32) (x2 : Int32) : Option (gM × (Int32 ⊕ Nat)) := mX5_goes_b0 A x1 x2
set_option maxHeartbeats 2000000 in
set_option maxRecDepth 20000 in
theorem wX5_goes_b0 (hN : 183 ≤ N) {A0 A' : gM} {res : Int32 ⊕ Nat} (C : gC p (g_rmx 8 2 (6 * 2)) s m args meth c cX5_goes RX5 3 D g (va_A (gw g ad ln A0 N) s.heap.size) 8) (CX : gCX l s c (va_A (gw g ad ln A0 N) s.heap.size)) (hr : meth.sig.returnType = some .int)  {A : gM} {x1 : Int32} {x2 : Int32} (h : mX5_goes_b0 A x1 x2 = some (A', res)) : gJ p l e (g_rmx 8 2 (6 * 2)) s m args below meth c (gEXi below D g N ad ln A0 A' res 2 args s) 3 D g (va_A (gw g ad ln A0 N) s.heap.size) N ad ln A [(0, gr 0), (1, gi x1), (2, gi x2)] 0 0 0 [] := by
  unfold mX5_goes_b0 at h
  refine g_aload_n C 0 dX5_goes_0 rfl ?_
  refine g_iload_n C 1 dX5_goes_1 rfl ?_
  obtain ⟨q1, eq1, h⟩ := g_bd h
  refine g_callvXi C CX 0 [gi x1] (kX5_needPart hN CX.1 eq1) qs_X5_38 (by omega) (by omega) rfl rfl rfl rfl (Nat.le_of_ble_eq_true rfl) ⟨Nat.le_of_ble_eq_true rfl, Nat.le_of_ble_eq_true rfl⟩ ⟨Nat.le_of_ble_eq_true rfl, Nat.le_of_ble_eq_true rfl⟩ dX5_goes_2 (fun k hk => g_trx h hk) (fun r2 hr2 => ?_)
  have h := g_trr h hr2
  refine g_aload_n C 0 dX5_goes_5 rfl ?_
  refine g_iload_n C 2 dX5_goes_6 rfl ?_
  obtain ⟨q3, eq3, h⟩ := g_bd h
  refine g_callvXi C CX 0 [gi x2] (kX5_needPart hN CX.1 eq3) qs_X5_38 (by omega) (by omega) rfl rfl rfl rfl (Nat.le_of_ble_eq_true rfl) ⟨Nat.le_of_ble_eq_true rfl, Nat.le_of_ble_eq_true rfl⟩ ⟨Nat.le_of_ble_eq_true rfl, Nat.le_of_ble_eq_true rfl⟩ dX5_goes_7 (fun k hk => g_trx h hk) (fun r4 hr4 => ?_)
  have h := g_trr h hr4
  refine g_aload_n C 0 dX5_goes_10 rfl ?_
  refine g_iload_n C 1 dX5_goes_11 rfl ?_
  refine g_iload_n C 2 dX5_goes_12 rfl ?_
  obtain ⟨q5, eq5, h⟩ := g_bd h
  refine g_calliV C 0 [gi x1, gi x2] (kX5_faultOfTurning hN eq5) qs_X5_78 (by omega) (by omega) rfl rfl rfl rfl (Nat.le_of_ble_eq_true rfl) ⟨Nat.le_of_ble_eq_true rfl, Nat.le_of_ble_eq_true rfl⟩ dX5_goes_13 ?_
  obtain ⟨rfl, hres⟩ := Prod.mk.inj (Option.some.inj h)
  exact g_retXi C hres.symm (Nat.le_of_ble_eq_true rfl) (Nat.le_of_ble_eq_true rfl) hr dX5_goes_16

set_option maxHeartbeats 2000000 in
set_option maxRecDepth 20000 in
theorem kX5_goes {l : Launch} {D : va_G} {g : gT} {N : Nat} {ad ln : Nat → Nat} (hN : 183 ≤ N) (hl : l.stackTraces = false) {A A' : gM} {x1 : Int32} {x2 : Int32} {res : Int32 ⊕ Nat} (h : mX5_goes A x1 x2 = some (A', res)) : gXi l yX5_goes cX5_goes 3 (some .int) (8) 2 D g N ad ln A [gr 0, gi x1, gi x2] A' res := by
  refine g_metXi hl (by decide) (Nat.le_of_ble_eq_true rfl) ?_
  intro p e s m args below meth c C CX hr
  refine g_sub [0, 1, 2] rfl ?_
  exact wX5_goes_b0 hN C CX hr h
end T5
