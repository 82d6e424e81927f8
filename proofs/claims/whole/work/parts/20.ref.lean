theorem qf_X6_102 : Cond.fieldLink RX6 102 (TX6 13).1 (TX6 13).2.1 (TX6 13).2.2.1 ∈ gtb := g_tb (List.mem_of_getElem? (i := 752) (by decide +kernel)) (by decide +kernel)
theorem qf_X6_119 : Cond.fieldLink RX6 119 (TX6 9).1 (TX6 9).2.1 (TX6 9).2.2.1 ∈ gtb := g_tb (List.mem_of_getElem? (i := 748) (by decide +kernel)) (by decide +kernel)
theorem qf_X6_13 : Cond.fieldLink RX6 13 (TX6 4).1 (TX6 4).2.1 (TX6 4).2.2.1 ∈ gtb := g_tb (List.mem_of_getElem? (i := 743) (by decide +kernel)) (by decide +kernel)
theorem qf_X6_16 : Cond.fieldLink RX6 16 (TX6 5).1 (TX6 5).2.1 (TX6 5).2.2.1 ∈ gtb := g_tb (List.mem_of_getElem? (i := 744) (by decide +kernel)) (by decide +kernel)
theorem qf_X6_19 : Cond.fieldLink RX6 19 (TX6 6).1 (TX6 6).2.1 (TX6 6).2.2.1 ∈ gtb := g_tb (List.mem_of_getElem? (i := 745) (by decide +kernel)) (by decide +kernel)
theorem qf_X6_22 : Cond.fieldLink RX6 22 (TX6 7).1 (TX6 7).2.1 (TX6 7).2.2.1 ∈ gtb := g_tb (List.mem_of_getElem? (i := 746) (by decide +kernel)) (by decide +kernel)
theorem qf_X6_32 : Cond.fieldLink RX6 32 (TX6 11).1 (TX6 11).2.1 (TX6 11).2.2.1 ∈ gtb := g_tb (List.mem_of_getElem? (i := 750) (by decide +kernel)) (by decide +kernel)
theorem qf_X6_35 : Cond.fieldLink RX6 35 (TX6 0).1 (TX6 0).2.1 (TX6 0).2.2.1 ∈ gtb := g_tb (List.mem_of_getElem? (i := 739) (by decide +kernel)) (by decide +kernel)
theorem qf_X6_39 : Cond.fieldLink RX6 39 (TX6 1).1 (TX6 1).2.1 (TX6 1).2.2.1 ∈ gtb := g_tb (List.mem_of_getElem? (i := 740) (by decide +kernel)) (by decide +kernel)
theorem qf_X6_9 : Cond.fieldLink RX6 9 (TX6 2).1 (TX6 2).2.1 (TX6 2).2.2.1 ∈ gtb := g_tb (List.mem_of_getElem? (i := 741) (by decide +kernel)) (by decide +kernel)
theorem qf_X6_99 : Cond.fieldLink RX6 99 (TX6 12).1 (TX6 12).2.1 (TX6 12).2.2.1 ∈ gtb := g_tb (List.mem_of_getElem? (i := 751) (by decide +kernel)) (by decide +kernel)
theorem qm_X6_114 : g_siteM RX6 114 Lib.Math.min.name Lib.Math.min.code := ⟨g_tb (List.mem_of_getElem? (i := 972) (by decide +kernel)) (by decide +kernel), g_tb (List.mem_of_getElem? (i := 408) (by decide +kernel)) (by decide +kernel), g_tb (List.mem_of_getElem? (i := 85) (by decide +kernel)) (by decide +kernel), g_tb (List.mem_of_getElem? (i := 409) (by decide +kernel)) (by decide +kernel)⟩
theorem qm_X6_179 : g_siteM RX6 179 Lib.Math.max.name Lib.Math.max.code := ⟨g_tb (List.mem_of_getElem? (i := 868) (by decide +kernel)) (by decide +kernel), g_tb (List.mem_of_getElem? (i := 372) (by decide +kernel)) (by decide +kernel), g_tb (List.mem_of_getElem? (i := 85) (by decide +kernel)) (by decide +kernel), g_tb (List.mem_of_getElem? (i := 373) (by decide +kernel)) (by decide +kernel)⟩
theorem qs_X6_105 : g_site RX6 RX6 105 yX6_failed cX6_failed 3 (some .int) 2 := ⟨g_tb (List.mem_of_getElem? (i := 920) (by decide +kernel)) (by decide +kernel), g_tb (List.mem_of_getElem? (i := 922) (by decide +kernel)) (by decide +kernel), g_tb (List.mem_of_getElem? (i := 53) (by decide +kernel)) (by decide +kernel), g_tb (List.mem_of_getElem? (i := 79) (by decide +kernel)) (by decide +kernel), g_tb (List.mem_of_getElem? (i := 923) (by decide +kernel)) (by decide +kernel), ⟨rfl, by decide, by decide, by decide +kernel⟩, by decide⟩
theorem qs_X6_108 : g_site RX6 RX6 108 yX6_join cX6_join 8 (some .boolean) 3 := ⟨g_tb (List.mem_of_getElem? (i := 936) (by decide +kernel)) (by decide +kernel), g_tb (List.mem_of_getElem? (i := 938) (by decide +kernel)) (by decide +kernel), g_tb (List.mem_of_getElem? (i := 57) (by decide +kernel)) (by decide +kernel), g_tb (List.mem_of_getElem? (i := 79) (by decide +kernel)) (by decide +kernel), g_tb (List.mem_of_getElem? (i := 939) (by decide +kernel)) (by decide +kernel), ⟨rfl, by decide, by decide, by decide +kernel⟩, by decide⟩
theorem qs_X6_111 : g_site RX6 RX6 111 yX6_codes cX6_codes 4 (some .int) 1 := ⟨g_tb (List.mem_of_getElem? (i := 968) (by decide +kernel)) (by decide +kernel), g_tb (List.mem_of_getElem? (i := 970) (by decide +kernel)) (by decide +kernel), g_tb (List.mem_of_getElem? (i := 65) (by decide +kernel)) (by decide +kernel), g_tb (List.mem_of_getElem? (i := 79) (by decide +kernel)) (by decide +kernel), g_tb (List.mem_of_getElem? (i := 971) (by decide +kernel)) (by decide +kernel), ⟨rfl, by decide, by decide, by decide +kernel⟩, by decide⟩
theorem qs_X6_122 : g_site RX6 RX6 122 yX6_own cX6_own 3 (none) 1 := ⟨g_tb (List.mem_of_getElem? (i := 948) (by decide +kernel)) (by decide +kernel), g_tb (List.mem_of_getElem? (i := 950) (by decide +kernel)) (by decide +kernel), g_tb (List.mem_of_getElem? (i := 60) (by decide +kernel)) (by decide +kernel), g_tb (List.mem_of_getElem? (i := 79) (by decide +kernel)) (by decide +kernel), g_tb (List.mem_of_getElem? (i := 951) (by decide +kernel)) (by decide +kernel), ⟨rfl, by decide, by decide, by decide +kernel⟩, by decide⟩
theorem qs_X6_126 : g_site RX6 RX6 126 yX6_isAround cX6_isAround 3 (some .boolean) 1 := ⟨g_tb (List.mem_of_getElem? (i := 952) (by decide +kernel)) (by decide +kernel), g_tb (List.mem_of_getElem? (i := 954) (by decide +kernel)) (by decide +kernel), g_tb (List.mem_of_getElem? (i := 61) (by decide +kernel)) (by decide +kernel), g_tb (List.mem_of_getElem? (i := 79) (by decide +kernel)) (by decide +kernel), g_tb (List.mem_of_getElem? (i := 955) (by decide +kernel)) (by decide +kernel), ⟨rfl, by decide, by decide, by decide +kernel⟩, by decide⟩
theorem qs_X6_129 : g_site RX6 RX6 129 yX6_hasOwn cX6_hasOwn 3 (some .boolean) 1 := ⟨g_tb (List.mem_of_getElem? (i := 908) (by decide +kernel)) (by decide +kernel), g_tb (List.mem_of_getElem? (i := 910) (by decide +kernel)) (by decide +kernel), g_tb (List.mem_of_getElem? (i := 50) (by decide +kernel)) (by decide +kernel), g_tb (List.mem_of_getElem? (i := 79) (by decide +kernel)) (by decide +kernel), g_tb (List.mem_of_getElem? (i := 911) (by decide +kernel)) (by decide +kernel), ⟨rfl, by decide, by decide, by decide +kernel⟩, by decide⟩
theorem qs_X6_169 : g_site RX6 RX6 169 yX6_write cX6_write 7 (some .int) 4 := ⟨g_tb (List.mem_of_getElem? (i := 981) (by decide +kernel)) (by decide +kernel), g_tb (List.mem_of_getElem? (i := 983) (by decide +kernel)) (by decide +kernel), g_tb (List.mem_of_getElem? (i := 68) (by decide +kernel)) (by decide +kernel), g_tb (List.mem_of_getElem? (i := 79) (by decide +kernel)) (by decide +kernel), g_tb (List.mem_of_getElem? (i := 984) (by decide +kernel)) (by decide +kernel), ⟨rfl, by decide, by decide, by decide +kernel⟩, by decide⟩
theorem qs_X6_176 : g_site RX6 RX6 176 yX6_deep cX6_deep 3 (some .int) 1 := ⟨g_tb (List.mem_of_getElem? (i := 973) (by decide +kernel)) (by decide +kernel), g_tb (List.mem_of_getElem? (i := 975) (by decide +kernel)) (by decide +kernel), g_tb (List.mem_of_getElem? (i := 66) (by decide +kernel)) (by decide +kernel), g_tb (List.mem_of_getElem? (i := 79) (by decide +kernel)) (by decide +kernel), g_tb (List.mem_of_getElem? (i := 976) (by decide +kernel)) (by decide +kernel), ⟨rfl, by decide, by decide, by decide +kernel⟩, by decide⟩
theorem qs_X6_182 : g_site RX6 RX6 182 yX6_depth cX6_depth 4 (some .int) 1 := ⟨g_tb (List.mem_of_getElem? (i := 864) (by decide +kernel)) (by decide +kernel), g_tb (List.mem_of_getElem? (i := 866) (by decide +kernel)) (by decide +kernel), g_tb (List.mem_of_getElem? (i := 41) (by decide +kernel)) (by decide +kernel), g_tb (List.mem_of_getElem? (i := 79) (by decide +kernel)) (by decide +kernel), g_tb (List.mem_of_getElem? (i := 867) (by decide +kernel)) (by decide +kernel), ⟨rfl, by decide, by decide, by decide +kernel⟩, by decide⟩
theorem qs_X6_185 : g_site RX6 RX6 185 yX6_partTold cX6_partTold 3 (some .int) 2 := ⟨g_tb (List.mem_of_getElem? (i := 860) (by decide +kernel)) (by decide +kernel), g_tb (List.mem_of_getElem? (i := 862) (by decide +kernel)) (by decide +kernel), g_tb (List.mem_of_getElem? (i := 40) (by decide +kernel)) (by decide +kernel), g_tb (List.mem_of_getElem? (i := 79) (by decide +kernel)) (by decide +kernel), g_tb (List.mem_of_getElem? (i := 863) (by decide +kernel)) (by decide +kernel), ⟨rfl, by decide, by decide, by decide +kernel⟩, by decide⟩
theorem qs_X6_46 : g_site RX6 RX6 46 yX6_pa cX6_pa 3 (some .int) 2 := ⟨g_tb (List.mem_of_getElem? (i := 802) (by decide +kernel)) (by decide +kernel), g_tb (List.mem_of_getElem? (i := 804) (by decide +kernel)) (by decide +kernel), g_tb (List.mem_of_getElem? (i := 36) (by decide +kernel)) (by decide +kernel), g_tb (List.mem_of_getElem? (i := 79) (by decide +kernel)) (by decide +kernel), g_tb (List.mem_of_getElem? (i := 805) (by decide +kernel)) (by decide +kernel), ⟨rfl, by decide, by decide, by decide +kernel⟩, by decide⟩
theorem qs_X6_60 : g_site RX6 RX6 60 yX6_fail cX6_fail 2 (some .int) 1 := ⟨g_tb (List.mem_of_getElem? (i := 806) (by decide +kernel)) (by decide +kernel), g_tb (List.mem_of_getElem? (i := 808) (by decide +kernel)) (by decide +kernel), g_tb (List.mem_of_getElem? (i := 37) (by decide +kernel)) (by decide +kernel), g_tb (List.mem_of_getElem? (i := 79) (by decide +kernel)) (by decide +kernel), g_tb (List.mem_of_getElem? (i := 809) (by decide +kernel)) (by decide +kernel), ⟨rfl, by decide, by decide, by decide +kernel⟩, by decide⟩
theorem qs_X6_75 : g_site RX6 RX6 75 yX6_isPart cX6_isPart 2 (some .boolean) 1 := ⟨g_tb (List.mem_of_getElem? (i := 828) (by decide +kernel)) (by decide +kernel), g_tb (List.mem_of_getElem? (i := 830) (by decide +kernel)) (by decide +kernel), g_tb (List.mem_of_getElem? (i := 39) (by decide +kernel)) (by decide +kernel), g_tb (List.mem_of_getElem? (i := 79) (by decide +kernel)) (by decide +kernel), g_tb (List.mem_of_getElem? (i := 831) (by decide +kernel)) (by decide +kernel), ⟨rfl, by decide, by decide, by decide +kernel⟩, by decide⟩
theorem qs_X6_89 : g_site RX6 RX6 89 yX6_now cX6_now 3 (some .int) 1 := ⟨g_tb (List.mem_of_getElem? (i := 904) (by decide +kernel)) (by decide +kernel), g_tb (List.mem_of_getElem? (i := 906) (by decide +kernel)) (by decide +kernel), g_tb (List.mem_of_getElem? (i := 49) (by decide +kernel)) (by decide +kernel), g_tb (List.mem_of_getElem? (i := 79) (by decide +kernel)) (by decide +kernel), g_tb (List.mem_of_getElem? (i := 907) (by decide +kernel)) (by decide +kernel), ⟨rfl, by decide, by decide, by decide +kernel⟩, by decide⟩
theorem qs_X6_92 : g_site RX6 RX6 92 yX6_isPair cX6_isPair 2 (some .boolean) 1 := ⟨g_tb (List.mem_of_getElem? (i := 912) (by decide +kernel)) (by decide +kernel), g_tb (List.mem_of_getElem? (i := 914) (by decide +kernel)) (by decide +kernel), g_tb (List.mem_of_getElem? (i := 51) (by decide +kernel)) (by decide +kernel), g_tb (List.mem_of_getElem? (i := 79) (by decide +kernel)) (by decide +kernel), g_tb (List.mem_of_getElem? (i := 915) (by decide +kernel)) (by decide +kernel), ⟨rfl, by decide, by decide, by decide +kernel⟩, by decide⟩
theorem qs_X6_95 : g_site RX6 RX6 95 yX6_has cX6_has 4 (some .boolean) 2 := ⟨g_tb (List.mem_of_getElem? (i := 940) (by decide +kernel)) (by decide +kernel), g_tb (List.mem_of_getElem? (i := 942) (by decide +kernel)) (by decide +kernel), g_tb (List.mem_of_getElem? (i := 58) (by decide +kernel)) (by decide +kernel), g_tb (List.mem_of_getElem? (i := 79) (by decide +kernel)) (by decide +kernel), g_tb (List.mem_of_getElem? (i := 943) (by decide +kernel)) (by decide +kernel), ⟨rfl, by decide, by decide, by decide +kernel⟩, by decide⟩
theorem qs_X6_198 : g_siteS RX6 198 yX6_behind cX6_behind 2 (some .int) 2 := ⟨g_tb (List.mem_of_getElem? (i := 1005) (by decide +kernel)) (by decide +kernel), g_tb (List.mem_of_getElem? (i := 1006) (by decide +kernel)) (by decide +kernel), g_tb (List.mem_of_getElem? (i := 79) (by decide +kernel)) (by decide +kernel), g_tb (List.mem_of_getElem? (i := 1007) (by decide +kernel)) (by decide +kernel), ⟨rfl, by decide, by decide, by decide +kernel⟩, by decide⟩
theorem qs_X6_42 : g_siteS RX6 42 yX6_isIn cX6_isIn 3 (some .boolean) 3 := ⟨g_tb (List.mem_of_getElem? (i := 791) (by decide +kernel)) (by decide +kernel), g_tb (List.mem_of_getElem? (i := 792) (by decide +kernel)) (by decide +kernel), g_tb (List.mem_of_getElem? (i := 79) (by decide +kernel)) (by decide +kernel), g_tb (List.mem_of_getElem? (i := 793) (by decide +kernel)) (by decide +kernel), ⟨rfl, by decide, by decide, by decide +kernel⟩, by decide⟩
theorem gu_6 : ∀ w ∈ wsX60, w ∈ gtb := by decide +kernel
theorem dX6_thrown_0 : decode cX6_thrown 0 = .ok (.aload_n 0, 1) := by decide +kernel
theorem dX6_thrown_1 : decode cX6_thrown 1 = .ok (.getfield 35, 3) := by decide +kernel
theorem dX6_thrown_4 : decode cX6_thrown 4 = .ok (.ireturn, 1) := by decide +kernel
theorem dX6_fail_0 : decode cX6_fail 0 = .ok (.aload_n 0, 1) := by decide +kernel
theorem dX6_fail_1 : decode cX6_fail 1 = .ok (.iload_n 1, 1) := by decide +kernel
theorem dX6_fail_2 : decode cX6_fail 2 = .ok (.putfield 35, 3) := by decide +kernel
theorem dX6_fail_5 : decode cX6_fail 5 = .ok (.iconst 0, 1) := by decide +kernel
theorem dX6_fail_6 : decode cX6_fail 6 = .ok (.ireturn, 1) := by decide +kernel
theorem dX6_isIn_0 : decode cX6_isIn 0 = .ok (.iload_n 0, 1) := by decide +kernel
theorem dX6_isIn_1 : decode cX6_isIn 1 = .ok (.iload_n 1, 1) := by decide +kernel
theorem dX6_isIn_2 : decode cX6_isIn 2 = .ok (.if_icmp .lt 12, 3) := by decide +kernel
theorem dX6_isIn_5 : decode cX6_isIn 5 = .ok (.iload_n 0, 1) := by decide +kernel
theorem dX6_isIn_6 : decode cX6_isIn 6 = .ok (.iload_n 2, 1) := by decide +kernel
theorem dX6_isIn_7 : decode cX6_isIn 7 = .ok (.if_icmp .gt 7, 3) := by decide +kernel
theorem dX6_isIn_10 : decode cX6_isIn 10 = .ok (.iconst 1, 1) := by decide +kernel
theorem dX6_isIn_11 : decode cX6_isIn 11 = .ok (.goto 4, 3) := by decide +kernel
theorem dX6_isIn_14 : decode cX6_isIn 14 = .ok (.iconst 0, 1) := by decide +kernel
theorem dX6_isIn_15 : decode cX6_isIn 15 = .ok (.ireturn, 1) := by decide +kernel
theorem dX6_isPart_0 : decode cX6_isPart 0 = .ok (.iload_n 1, 1) := by decide +kernel
theorem dX6_isPart_1 : decode cX6_isPart 1 = .ok (.iconst 0, 1) := by decide +kernel
theorem dX6_isPart_2 : decode cX6_isPart 2 = .ok (.aload_n 0, 1) := by decide +kernel
theorem dX6_isPart_3 : decode cX6_isPart 3 = .ok (.getfield 39, 3) := by decide +kernel
theorem dX6_isPart_6 : decode cX6_isPart 6 = .ok (.iconst 1, 1) := by decide +kernel
theorem dX6_isPart_7 : decode cX6_isPart 7 = .ok (.isub, 1) := by decide +kernel
theorem dX6_isPart_8 : decode cX6_isPart 8 = .ok (.invokestatic 42, 3) := by decide +kernel
theorem dX6_isPart_11 : decode cX6_isPart 11 = .ok (.ireturn, 1) := by decide +kernel
theorem dX6_pa_0 : decode cX6_pa 0 = .ok (.aload_n 0, 1) := by decide +kernel
theorem dX6_pa_1 : decode cX6_pa 1 = .ok (.getfield 9, 3) := by decide +kernel
theorem dX6_pa_4 : decode cX6_pa 4 = .ok (.bipush 6, 2) := by decide +kernel
theorem dX6_pa_6 : decode cX6_pa 6 = .ok (.iload_n 1, 1) := by decide +kernel
theorem dX6_pa_7 : decode cX6_pa 7 = .ok (.imul, 1) := by decide +kernel
theorem dX6_pa_8 : decode cX6_pa 8 = .ok (.iload_n 2, 1) := by decide +kernel
theorem dX6_pa_9 : decode cX6_pa 9 = .ok (.iadd, 1) := by decide +kernel
theorem dX6_pa_10 : decode cX6_pa 10 = .ok (.iaload, 1) := by decide +kernel
theorem dX6_pa_11 : decode cX6_pa 11 = .ok (.ireturn, 1) := by decide +kernel
theorem dX6_size_0 : decode cX6_size 0 = .ok (.iload_n 1, 1) := by decide +kernel
theorem dX6_size_1 : decode cX6_size 1 = .ok (.iconst (-1), 1) := by decide +kernel
theorem dX6_size_2 : decode cX6_size 2 = .ok (.if_icmp .ne 7, 3) := by decide +kernel
theorem dX6_size_5 : decode cX6_size 5 = .ok (.iconst 0, 1) := by decide +kernel
theorem dX6_size_6 : decode cX6_size 6 = .ok (.goto 9, 3) := by decide +kernel
theorem dX6_size_9 : decode cX6_size 9 = .ok (.aload_n 0, 1) := by decide +kernel
theorem dX6_size_10 : decode cX6_size 10 = .ok (.iload_n 1, 1) := by decide +kernel
theorem dX6_size_11 : decode cX6_size 11 = .ok (.iconst 5, 1) := by decide +kernel
theorem dX6_size_12 : decode cX6_size 12 = .ok (.invokevirtual 46, 3) := by decide +kernel
theorem dX6_size_15 : decode cX6_size 15 = .ok (.ireturn, 1) := by decide +kernel
theorem dX6_isName_0 : decode cX6_isName 0 = .ok (.iload_n 0, 1) := by decide +kernel
theorem dX6_isName_1 : decode cX6_isName 1 = .ok (.iconst 0, 1) := by decide +kernel
theorem dX6_isName_2 : decode cX6_isName 2 = .ok (.bipush 9, 2) := by decide +kernel
theorem dX6_isName_4 : decode cX6_isName 4 = .ok (.invokestatic 42, 3) := by decide +kernel
theorem dX6_isName_7 : decode cX6_isName 7 = .ok (.ireturn, 1) := by decide +kernel
theorem dX6_undo_0 : decode cX6_undo 0 = .ok (.aload_n 0, 1) := by decide +kernel
theorem dX6_undo_1 : decode cX6_undo 1 = .ok (.iconst 0, 1) := by decide +kernel
theorem dX6_undo_2 : decode cX6_undo 2 = .ok (.putfield 35, 3) := by decide +kernel
theorem dX6_undo_5 : decode cX6_undo 5 = .ok (.aload_n 0, 1) := by decide +kernel
theorem dX6_undo_6 : decode cX6_undo 6 = .ok (.getfield 39, 3) := by decide +kernel
theorem dX6_undo_9 : decode cX6_undo 9 = .ok (.ifCond .ne 9, 3) := by decide +kernel
theorem dX6_undo_12 : decode cX6_undo 12 = .ok (.aload_n 0, 1) := by decide +kernel
theorem dX6_undo_13 : decode cX6_undo 13 = .ok (.iconst 1, 1) := by decide +kernel
theorem dX6_undo_14 : decode cX6_undo 14 = .ok (.invokevirtual 60, 3) := by decide +kernel
theorem dX6_undo_17 : decode cX6_undo 17 = .ok (.ireturn, 1) := by decide +kernel
theorem dX6_undo_18 : decode cX6_undo 18 = .ok (.aload_n 0, 1) := by decide +kernel
theorem dX6_undo_19 : decode cX6_undo 19 = .ok (.dup, 1) := by decide +kernel
theorem dX6_undo_20 : decode cX6_undo 20 = .ok (.getfield 39, 3) := by decide +kernel
theorem dX6_undo_23 : decode cX6_undo 23 = .ok (.iconst 1, 1) := by decide +kernel
theorem dX6_undo_24 : decode cX6_undo 24 = .ok (.isub, 1) := by decide +kernel
theorem dX6_undo_25 : decode cX6_undo 25 = .ok (.putfield 39, 3) := by decide +kernel
theorem dX6_undo_28 : decode cX6_undo 28 = .ok (.aload_n 0, 1) := by decide +kernel
theorem dX6_undo_29 : decode cX6_undo 29 = .ok (.getfield 39, 3) := by decide +kernel
theorem dX6_undo_32 : decode cX6_undo 32 = .ok (.ireturn, 1) := by decide +kernel
theorem dX6_now_0 : decode cX6_now 0 = .ok (.iload_n 1, 1) := by decide +kernel
theorem dX6_now_1 : decode cX6_now 1 = .ok (.istore_n 2, 1) := by decide +kernel
theorem dX6_now_2 : decode cX6_now 2 = .ok (.aload_n 0, 1) := by decide +kernel
theorem dX6_now_3 : decode cX6_now 3 = .ok (.getfield 13, 3) := by decide +kernel
theorem dX6_now_6 : decode cX6_now 6 = .ok (.iload_n 2, 1) := by decide +kernel
theorem dX6_now_7 : decode cX6_now 7 = .ok (.iaload, 1) := by decide +kernel
theorem dX6_now_8 : decode cX6_now 8 = .ok (.iconst 4, 1) := by decide +kernel
theorem dX6_now_9 : decode cX6_now 9 = .ok (.if_icmp .ne 23, 3) := by decide +kernel
theorem dX6_now_12 : decode cX6_now 12 = .ok (.aload_n 0, 1) := by decide +kernel
theorem dX6_now_13 : decode cX6_now 13 = .ok (.getfield 16, 3) := by decide +kernel
theorem dX6_now_16 : decode cX6_now 16 = .ok (.iload_n 2, 1) := by decide +kernel
theorem dX6_now_17 : decode cX6_now 17 = .ok (.iaload, 1) := by decide +kernel
theorem dX6_now_18 : decode cX6_now 18 = .ok (.iconst (-1), 1) := by decide +kernel
theorem dX6_now_19 : decode cX6_now 19 = .ok (.if_icmp .eq 13, 3) := by decide +kernel
theorem dX6_now_22 : decode cX6_now 22 = .ok (.aload_n 0, 1) := by decide +kernel
theorem dX6_now_23 : decode cX6_now 23 = .ok (.getfield 16, 3) := by decide +kernel
theorem dX6_now_26 : decode cX6_now 26 = .ok (.iload_n 2, 1) := by decide +kernel
theorem dX6_now_27 : decode cX6_now 27 = .ok (.iaload, 1) := by decide +kernel
theorem dX6_now_28 : decode cX6_now 28 = .ok (.istore_n 2, 1) := by decide +kernel
theorem dX6_now_29 : decode cX6_now 29 = .ok (.goto (-27), 3) := by decide +kernel
theorem dX6_now_32 : decode cX6_now 32 = .ok (.iload_n 2, 1) := by decide +kernel
theorem dX6_now_33 : decode cX6_now 33 = .ok (.ireturn, 1) := by decide +kernel
theorem dX6_isPair_0 : decode cX6_isPair 0 = .ok (.aload_n 0, 1) := by decide +kernel
theorem dX6_isPair_1 : decode cX6_isPair 1 = .ok (.getfield 13, 3) := by decide +kernel
theorem dX6_isPair_4 : decode cX6_isPair 4 = .ok (.iload_n 1, 1) := by decide +kernel
theorem dX6_isPair_5 : decode cX6_isPair 5 = .ok (.iaload, 1) := by decide +kernel
theorem dX6_isPair_6 : decode cX6_isPair 6 = .ok (.iconst 2, 1) := by decide +kernel
theorem dX6_isPair_7 : decode cX6_isPair 7 = .ok (.if_icmp .eq 13, 3) := by decide +kernel
theorem dX6_isPair_10 : decode cX6_isPair 10 = .ok (.aload_n 0, 1) := by decide +kernel
theorem dX6_isPair_11 : decode cX6_isPair 11 = .ok (.getfield 13, 3) := by decide +kernel
theorem dX6_isPair_14 : decode cX6_isPair 14 = .ok (.iload_n 1, 1) := by decide +kernel
theorem dX6_isPair_15 : decode cX6_isPair 15 = .ok (.iaload, 1) := by decide +kernel
theorem dX6_isPair_16 : decode cX6_isPair 16 = .ok (.iconst 3, 1) := by decide +kernel
theorem dX6_isPair_17 : decode cX6_isPair 17 = .ok (.if_icmp .ne 7, 3) := by decide +kernel
theorem dX6_isPair_20 : decode cX6_isPair 20 = .ok (.iconst 1, 1) := by decide +kernel
theorem dX6_isPair_21 : decode cX6_isPair 21 = .ok (.goto 4, 3) := by decide +kernel
theorem dX6_isPair_24 : decode cX6_isPair 24 = .ok (.iconst 0, 1) := by decide +kernel
theorem dX6_isPair_25 : decode cX6_isPair 25 = .ok (.ireturn, 1) := by decide +kernel
theorem dX6_failed_0 : decode cX6_failed 0 = .ok (.aload_n 0, 1) := by decide +kernel
theorem dX6_failed_1 : decode cX6_failed 1 = .ok (.iload_n 1, 1) := by decide +kernel
theorem dX6_failed_2 : decode cX6_failed 2 = .ok (.putfield 99, 3) := by decide +kernel
theorem dX6_failed_5 : decode cX6_failed 5 = .ok (.aload_n 0, 1) := by decide +kernel
theorem dX6_failed_6 : decode cX6_failed 6 = .ok (.iload_n 2, 1) := by decide +kernel
theorem dX6_failed_7 : decode cX6_failed 7 = .ok (.putfield 102, 3) := by decide +kernel
theorem dX6_failed_10 : decode cX6_failed 10 = .ok (.iconst (-1), 1) := by decide +kernel
theorem dX6_failed_11 : decode cX6_failed 11 = .ok (.ireturn, 1) := by decide +kernel
theorem dX6_has_0 : decode cX6_has 0 = .ok (.aload_n 0, 1) := by decide +kernel
theorem dX6_has_1 : decode cX6_has 1 = .ok (.iload_n 1, 1) := by decide +kernel
theorem dX6_has_2 : decode cX6_has 2 = .ok (.invokevirtual 89, 3) := by decide +kernel
theorem dX6_has_5 : decode cX6_has 5 = .ok (.istore_n 3, 1) := by decide +kernel
theorem dX6_has_6 : decode cX6_has 6 = .ok (.iload_n 3, 1) := by decide +kernel
theorem dX6_has_7 : decode cX6_has 7 = .ok (.iload_n 2, 1) := by decide +kernel
theorem dX6_has_8 : decode cX6_has 8 = .ok (.if_icmp .eq 39, 3) := by decide +kernel
theorem dX6_has_11 : decode cX6_has 11 = .ok (.aload_n 0, 1) := by decide +kernel
theorem dX6_has_12 : decode cX6_has 12 = .ok (.iload_n 3, 1) := by decide +kernel
theorem dX6_has_13 : decode cX6_has 13 = .ok (.invokevirtual 92, 3) := by decide +kernel
theorem dX6_has_16 : decode cX6_has 16 = .ok (.ifCond .eq 35, 3) := by decide +kernel
theorem dX6_has_19 : decode cX6_has 19 = .ok (.aload_n 0, 1) := by decide +kernel
theorem dX6_has_20 : decode cX6_has 20 = .ok (.aload_n 0, 1) := by decide +kernel
theorem dX6_has_21 : decode cX6_has 21 = .ok (.getfield 16, 3) := by decide +kernel
theorem dX6_has_24 : decode cX6_has 24 = .ok (.iload_n 3, 1) := by decide +kernel
theorem dX6_has_25 : decode cX6_has 25 = .ok (.iaload, 1) := by decide +kernel
theorem dX6_has_26 : decode cX6_has 26 = .ok (.iload_n 2, 1) := by decide +kernel
theorem dX6_has_27 : decode cX6_has 27 = .ok (.invokevirtual 95, 3) := by decide +kernel
theorem dX6_has_30 : decode cX6_has 30 = .ok (.ifCond .ne 17, 3) := by decide +kernel
theorem dX6_has_33 : decode cX6_has 33 = .ok (.aload_n 0, 1) := by decide +kernel
theorem dX6_has_34 : decode cX6_has 34 = .ok (.aload_n 0, 1) := by decide +kernel
theorem dX6_has_35 : decode cX6_has 35 = .ok (.getfield 19, 3) := by decide +kernel
theorem dX6_has_38 : decode cX6_has 38 = .ok (.iload_n 3, 1) := by decide +kernel
theorem dX6_has_39 : decode cX6_has 39 = .ok (.iaload, 1) := by decide +kernel
theorem dX6_has_40 : decode cX6_has 40 = .ok (.iload_n 2, 1) := by decide +kernel
theorem dX6_has_41 : decode cX6_has 41 = .ok (.invokevirtual 95, 3) := by decide +kernel
theorem dX6_has_44 : decode cX6_has 44 = .ok (.ifCond .eq 7, 3) := by decide +kernel
theorem dX6_has_47 : decode cX6_has 47 = .ok (.iconst 1, 1) := by decide +kernel
theorem dX6_has_48 : decode cX6_has 48 = .ok (.goto 4, 3) := by decide +kernel
theorem dX6_has_51 : decode cX6_has 51 = .ok (.iconst 0, 1) := by decide +kernel
theorem dX6_has_52 : decode cX6_has 52 = .ok (.ireturn, 1) := by decide +kernel
theorem dX6_codes_0 : decode cX6_codes 0 = .ok (.aload_n 0, 1) := by decide +kernel
theorem dX6_codes_1 : decode cX6_codes 1 = .ok (.iload_n 1, 1) := by decide +kernel
theorem dX6_codes_2 : decode cX6_codes 2 = .ok (.invokevirtual 89, 3) := by decide +kernel
theorem dX6_codes_5 : decode cX6_codes 5 = .ok (.istore_n 2, 1) := by decide +kernel
theorem dX6_codes_6 : decode cX6_codes 6 = .ok (.aload_n 0, 1) := by decide +kernel
theorem dX6_codes_7 : decode cX6_codes 7 = .ok (.iload_n 2, 1) := by decide +kernel
theorem dX6_codes_8 : decode cX6_codes 8 = .ok (.invokevirtual 92, 3) := by decide +kernel
theorem dX6_codes_11 : decode cX6_codes 11 = .ok (.ifCond .ne 5, 3) := by decide +kernel
theorem dX6_codes_14 : decode cX6_codes 14 = .ok (.iconst 1, 1) := by decide +kernel
theorem dX6_codes_15 : decode cX6_codes 15 = .ok (.ireturn, 1) := by decide +kernel
theorem dX6_codes_16 : decode cX6_codes 16 = .ok (.aload_n 0, 1) := by decide +kernel
theorem dX6_codes_17 : decode cX6_codes 17 = .ok (.aload_n 0, 1) := by decide +kernel
theorem dX6_codes_18 : decode cX6_codes 18 = .ok (.getfield 16, 3) := by decide +kernel
theorem dX6_codes_21 : decode cX6_codes 21 = .ok (.iload_n 2, 1) := by decide +kernel
theorem dX6_codes_22 : decode cX6_codes 22 = .ok (.iaload, 1) := by decide +kernel
theorem dX6_codes_23 : decode cX6_codes 23 = .ok (.invokevirtual 111, 3) := by decide +kernel
theorem dX6_codes_26 : decode cX6_codes 26 = .ok (.istore_n 3, 1) := by decide +kernel
theorem dX6_codes_27 : decode cX6_codes 27 = .ok (.iload_n 3, 1) := by decide +kernel
theorem dX6_codes_28 : decode cX6_codes 28 = .ok (.bipush 60, 2) := by decide +kernel
theorem dX6_codes_30 : decode cX6_codes 30 = .ok (.if_icmp .le 7, 3) := by decide +kernel
theorem dX6_codes_33 : decode cX6_codes 33 = .ok (.iload_n 3, 1) := by decide +kernel
theorem dX6_codes_34 : decode cX6_codes 34 = .ok (.goto 22, 3) := by decide +kernel
theorem dX6_codes_37 : decode cX6_codes 37 = .ok (.bipush 61, 2) := by decide +kernel
theorem dX6_codes_39 : decode cX6_codes 39 = .ok (.iconst 1, 1) := by decide +kernel
theorem dX6_codes_40 : decode cX6_codes 40 = .ok (.iload_n 3, 1) := by decide +kernel
theorem dX6_codes_41 : decode cX6_codes 41 = .ok (.iadd, 1) := by decide +kernel
theorem dX6_codes_42 : decode cX6_codes 42 = .ok (.aload_n 0, 1) := by decide +kernel
theorem dX6_codes_43 : decode cX6_codes 43 = .ok (.aload_n 0, 1) := by decide +kernel
theorem dX6_codes_44 : decode cX6_codes 44 = .ok (.getfield 19, 3) := by decide +kernel
theorem dX6_codes_47 : decode cX6_codes 47 = .ok (.iload_n 2, 1) := by decide +kernel
theorem dX6_codes_48 : decode cX6_codes 48 = .ok (.iaload, 1) := by decide +kernel
theorem dX6_codes_49 : decode cX6_codes 49 = .ok (.invokevirtual 111, 3) := by decide +kernel
theorem dX6_codes_52 : decode cX6_codes 52 = .ok (.iadd, 1) := by decide +kernel
theorem dX6_codes_53 : decode cX6_codes 53 = .ok (.invokestatic 114, 3) := by decide +kernel
theorem dX6_codes_56 : decode cX6_codes 56 = .ok (.ireturn, 1) := by decide +kernel
theorem dX6_hasOwn_0 : decode cX6_hasOwn 0 = .ok (.aload_n 0, 1) := by decide +kernel
theorem dX6_hasOwn_1 : decode cX6_hasOwn 1 = .ok (.iload_n 1, 1) := by decide +kernel
theorem dX6_hasOwn_2 : decode cX6_hasOwn 2 = .ok (.invokevirtual 89, 3) := by decide +kernel
theorem dX6_hasOwn_5 : decode cX6_hasOwn 5 = .ok (.istore_n 2, 1) := by decide +kernel
theorem dX6_hasOwn_6 : decode cX6_hasOwn 6 = .ok (.aload_n 0, 1) := by decide +kernel
theorem dX6_hasOwn_7 : decode cX6_hasOwn 7 = .ok (.iload_n 2, 1) := by decide +kernel
theorem dX6_hasOwn_8 : decode cX6_hasOwn 8 = .ok (.invokevirtual 92, 3) := by decide +kernel
theorem dX6_hasOwn_11 : decode cX6_hasOwn 11 = .ok (.ifCond .eq 37, 3) := by decide +kernel
theorem dX6_hasOwn_14 : decode cX6_hasOwn 14 = .ok (.aload_n 0, 1) := by decide +kernel
theorem dX6_hasOwn_15 : decode cX6_hasOwn 15 = .ok (.aload_n 0, 1) := by decide +kernel
theorem dX6_hasOwn_16 : decode cX6_hasOwn 16 = .ok (.getfield 16, 3) := by decide +kernel
theorem dX6_hasOwn_19 : decode cX6_hasOwn 19 = .ok (.iload_n 2, 1) := by decide +kernel
theorem dX6_hasOwn_20 : decode cX6_hasOwn 20 = .ok (.iaload, 1) := by decide +kernel
theorem dX6_hasOwn_21 : decode cX6_hasOwn 21 = .ok (.invokevirtual 129, 3) := by decide +kernel
theorem dX6_hasOwn_24 : decode cX6_hasOwn 24 = .ok (.ifCond .ne 16, 3) := by decide +kernel
theorem dX6_hasOwn_27 : decode cX6_hasOwn 27 = .ok (.aload_n 0, 1) := by decide +kernel
theorem dX6_hasOwn_28 : decode cX6_hasOwn 28 = .ok (.aload_n 0, 1) := by decide +kernel
theorem dX6_hasOwn_29 : decode cX6_hasOwn 29 = .ok (.getfield 19, 3) := by decide +kernel
theorem dX6_hasOwn_32 : decode cX6_hasOwn 32 = .ok (.iload_n 2, 1) := by decide +kernel
theorem dX6_hasOwn_33 : decode cX6_hasOwn 33 = .ok (.iaload, 1) := by decide +kernel
theorem dX6_hasOwn_34 : decode cX6_hasOwn 34 = .ok (.invokevirtual 129, 3) := by decide +kernel
theorem dX6_hasOwn_37 : decode cX6_hasOwn 37 = .ok (.ifCond .eq 7, 3) := by decide +kernel
theorem dX6_hasOwn_40 : decode cX6_hasOwn 40 = .ok (.iconst 1, 1) := by decide +kernel
theorem dX6_hasOwn_41 : decode cX6_hasOwn 41 = .ok (.goto 31, 3) := by decide +kernel
theorem dX6_hasOwn_44 : decode cX6_hasOwn 44 = .ok (.iconst 0, 1) := by decide +kernel
theorem dX6_hasOwn_45 : decode cX6_hasOwn 45 = .ok (.goto 27, 3) := by decide +kernel
theorem dX6_hasOwn_48 : decode cX6_hasOwn 48 = .ok (.aload_n 0, 1) := by decide +kernel
theorem dX6_hasOwn_49 : decode cX6_hasOwn 49 = .ok (.getfield 13, 3) := by decide +kernel
theorem dX6_hasOwn_52 : decode cX6_hasOwn 52 = .ok (.iload_n 2, 1) := by decide +kernel
theorem dX6_hasOwn_53 : decode cX6_hasOwn 53 = .ok (.iaload, 1) := by decide +kernel
theorem dX6_hasOwn_54 : decode cX6_hasOwn 54 = .ok (.iconst 4, 1) := by decide +kernel
theorem dX6_hasOwn_55 : decode cX6_hasOwn 55 = .ok (.if_icmp .ne 16, 3) := by decide +kernel
theorem dX6_hasOwn_58 : decode cX6_hasOwn 58 = .ok (.aload_n 0, 1) := by decide +kernel
theorem dX6_hasOwn_59 : decode cX6_hasOwn 59 = .ok (.getfield 22, 3) := by decide +kernel
theorem dX6_hasOwn_62 : decode cX6_hasOwn 62 = .ok (.iload_n 2, 1) := by decide +kernel
theorem dX6_hasOwn_63 : decode cX6_hasOwn 63 = .ok (.baload, 1) := by decide +kernel
theorem dX6_hasOwn_64 : decode cX6_hasOwn 64 = .ok (.ifCond .eq 7, 3) := by decide +kernel
theorem dX6_hasOwn_67 : decode cX6_hasOwn 67 = .ok (.iconst 1, 1) := by decide +kernel
theorem dX6_hasOwn_68 : decode cX6_hasOwn 68 = .ok (.goto 4, 3) := by decide +kernel
theorem dX6_hasOwn_71 : decode cX6_hasOwn 71 = .ok (.iconst 0, 1) := by decide +kernel
theorem dX6_hasOwn_72 : decode cX6_hasOwn 72 = .ok (.ireturn, 1) := by decide +kernel
theorem dX6_join_0 : decode cX6_join 0 = .ok (.aload_n 0, 1) := by decide +kernel
theorem dX6_join_1 : decode cX6_join 1 = .ok (.iload_n 1, 1) := by decide +kernel
theorem dX6_join_2 : decode cX6_join 2 = .ok (.invokevirtual 89, 3) := by decide +kernel
theorem dX6_join_5 : decode cX6_join 5 = .ok (.istore 4, 2) := by decide +kernel
theorem dX6_join_7 : decode cX6_join 7 = .ok (.aload_n 0, 1) := by decide +kernel
theorem dX6_join_8 : decode cX6_join 8 = .ok (.iload_n 2, 1) := by decide +kernel
theorem dX6_join_9 : decode cX6_join 9 = .ok (.invokevirtual 89, 3) := by decide +kernel
theorem dX6_join_12 : decode cX6_join 12 = .ok (.istore 5, 2) := by decide +kernel
theorem dX6_join_14 : decode cX6_join 14 = .ok (.iload 4, 2) := by decide +kernel
theorem dX6_join_16 : decode cX6_join 16 = .ok (.iload 5, 2) := by decide +kernel
theorem dX6_join_18 : decode cX6_join 18 = .ok (.if_icmp .ne 5, 3) := by decide +kernel
theorem dX6_join_21 : decode cX6_join 21 = .ok (.iconst 1, 1) := by decide +kernel
theorem dX6_join_22 : decode cX6_join 22 = .ok (.ireturn, 1) := by decide +kernel
theorem dX6_join_23 : decode cX6_join 23 = .ok (.aload_n 0, 1) := by decide +kernel
theorem dX6_join_24 : decode cX6_join 24 = .ok (.getfield 13, 3) := by decide +kernel
theorem dX6_join_27 : decode cX6_join 27 = .ok (.iload 4, 2) := by decide +kernel
theorem dX6_join_29 : decode cX6_join 29 = .ok (.iaload, 1) := by decide +kernel
theorem dX6_join_30 : decode cX6_join 30 = .ok (.iconst 4, 1) := by decide +kernel
theorem dX6_join_31 : decode cX6_join 31 = .ok (.if_icmp .eq 14, 3) := by decide +kernel
theorem dX6_join_34 : decode cX6_join 34 = .ok (.aload_n 0, 1) := by decide +kernel
theorem dX6_join_35 : decode cX6_join 35 = .ok (.getfield 13, 3) := by decide +kernel
theorem dX6_join_38 : decode cX6_join 38 = .ok (.iload 5, 2) := by decide +kernel
theorem dX6_join_40 : decode cX6_join 40 = .ok (.iaload, 1) := by decide +kernel
theorem dX6_join_41 : decode cX6_join 41 = .ok (.iconst 4, 1) := by decide +kernel
theorem dX6_join_42 : decode cX6_join 42 = .ok (.if_icmp .ne 77, 3) := by decide +kernel
theorem dX6_join_45 : decode cX6_join 45 = .ok (.aload_n 0, 1) := by decide +kernel
theorem dX6_join_46 : decode cX6_join 46 = .ok (.getfield 13, 3) := by decide +kernel
theorem dX6_join_49 : decode cX6_join 49 = .ok (.iload 4, 2) := by decide +kernel
theorem dX6_join_51 : decode cX6_join 51 = .ok (.iaload, 1) := by decide +kernel
theorem dX6_join_52 : decode cX6_join 52 = .ok (.iconst 4, 1) := by decide +kernel
theorem dX6_join_53 : decode cX6_join 53 = .ok (.if_icmp .ne 8, 3) := by decide +kernel
theorem dX6_join_56 : decode cX6_join 56 = .ok (.iload 4, 2) := by decide +kernel
theorem dX6_join_58 : decode cX6_join 58 = .ok (.goto 5, 3) := by decide +kernel
theorem dX6_join_61 : decode cX6_join 61 = .ok (.iload 5, 2) := by decide +kernel
theorem dX6_join_63 : decode cX6_join 63 = .ok (.istore 6, 2) := by decide +kernel
theorem dX6_join_65 : decode cX6_join 65 = .ok (.iload 6, 2) := by decide +kernel
theorem dX6_join_67 : decode cX6_join 67 = .ok (.iload 4, 2) := by decide +kernel
theorem dX6_join_69 : decode cX6_join 69 = .ok (.if_icmp .ne 8, 3) := by decide +kernel
theorem dX6_join_72 : decode cX6_join 72 = .ok (.iload 5, 2) := by decide +kernel
theorem dX6_join_74 : decode cX6_join 74 = .ok (.goto 5, 3) := by decide +kernel
theorem dX6_join_77 : decode cX6_join 77 = .ok (.iload 4, 2) := by decide +kernel
theorem dX6_join_79 : decode cX6_join 79 = .ok (.istore 7, 2) := by decide +kernel
theorem dX6_join_81 : decode cX6_join 81 = .ok (.aload_n 0, 1) := by decide +kernel
theorem dX6_join_82 : decode cX6_join 82 = .ok (.iload 7, 2) := by decide +kernel
theorem dX6_join_84 : decode cX6_join 84 = .ok (.iload 6, 2) := by decide +kernel
theorem dX6_join_86 : decode cX6_join 86 = .ok (.invokevirtual 95, 3) := by decide +kernel
theorem dX6_join_89 : decode cX6_join 89 = .ok (.ifCond .eq 19, 3) := by decide +kernel
theorem dX6_join_92 : decode cX6_join 92 = .ok (.aload_n 0, 1) := by decide +kernel
theorem dX6_join_93 : decode cX6_join 93 = .ok (.iconst 3, 1) := by decide +kernel
theorem dX6_join_94 : decode cX6_join 94 = .ok (.iload_n 3, 1) := by decide +kernel
theorem dX6_join_95 : decode cX6_join 95 = .ok (.invokevirtual 105, 3) := by decide +kernel
theorem dX6_join_98 : decode cX6_join 98 = .ok (.iconst (-1), 1) := by decide +kernel
theorem dX6_join_99 : decode cX6_join 99 = .ok (.if_icmp .eq 7, 3) := by decide +kernel
theorem dX6_join_102 : decode cX6_join 102 = .ok (.iconst 1, 1) := by decide +kernel
theorem dX6_join_103 : decode cX6_join 103 = .ok (.goto 4, 3) := by decide +kernel
theorem dX6_join_106 : decode cX6_join 106 = .ok (.iconst 0, 1) := by decide +kernel
theorem dX6_join_107 : decode cX6_join 107 = .ok (.ireturn, 1) := by decide +kernel
theorem dX6_join_108 : decode cX6_join 108 = .ok (.aload_n 0, 1) := by decide +kernel
theorem dX6_join_109 : decode cX6_join 109 = .ok (.getfield 16, 3) := by decide +kernel
theorem dX6_join_112 : decode cX6_join 112 = .ok (.iload 6, 2) := by decide +kernel
theorem dX6_join_114 : decode cX6_join 114 = .ok (.iload 7, 2) := by decide +kernel
theorem dX6_join_116 : decode cX6_join 116 = .ok (.iastore, 1) := by decide +kernel
theorem dX6_join_117 : decode cX6_join 117 = .ok (.iconst 1, 1) := by decide +kernel
theorem dX6_join_118 : decode cX6_join 118 = .ok (.ireturn, 1) := by decide +kernel
theorem dX6_join_119 : decode cX6_join 119 = .ok (.aload_n 0, 1) := by decide +kernel
theorem dX6_join_120 : decode cX6_join 120 = .ok (.getfield 13, 3) := by decide +kernel
theorem dX6_join_123 : decode cX6_join 123 = .ok (.iload 4, 2) := by decide +kernel
theorem dX6_join_125 : decode cX6_join 125 = .ok (.iaload, 1) := by decide +kernel
theorem dX6_join_126 : decode cX6_join 126 = .ok (.aload_n 0, 1) := by decide +kernel
theorem dX6_join_127 : decode cX6_join 127 = .ok (.getfield 13, 3) := by decide +kernel
theorem dX6_join_130 : decode cX6_join 130 = .ok (.iload 5, 2) := by decide +kernel
theorem dX6_join_132 : decode cX6_join 132 = .ok (.iaload, 1) := by decide +kernel
theorem dX6_join_133 : decode cX6_join 133 = .ok (.if_icmp .eq 19, 3) := by decide +kernel
theorem dX6_join_136 : decode cX6_join 136 = .ok (.aload_n 0, 1) := by decide +kernel
theorem dX6_join_137 : decode cX6_join 137 = .ok (.iconst 2, 1) := by decide +kernel
theorem dX6_join_138 : decode cX6_join 138 = .ok (.iload_n 3, 1) := by decide +kernel
theorem dX6_join_139 : decode cX6_join 139 = .ok (.invokevirtual 105, 3) := by decide +kernel
theorem dX6_join_142 : decode cX6_join 142 = .ok (.iconst (-1), 1) := by decide +kernel
theorem dX6_join_143 : decode cX6_join 143 = .ok (.if_icmp .eq 7, 3) := by decide +kernel
theorem dX6_join_146 : decode cX6_join 146 = .ok (.iconst 1, 1) := by decide +kernel
theorem dX6_join_147 : decode cX6_join 147 = .ok (.goto 4, 3) := by decide +kernel
theorem dX6_join_150 : decode cX6_join 150 = .ok (.iconst 0, 1) := by decide +kernel
theorem dX6_join_151 : decode cX6_join 151 = .ok (.ireturn, 1) := by decide +kernel
theorem dX6_join_152 : decode cX6_join 152 = .ok (.aload_n 0, 1) := by decide +kernel
theorem dX6_join_153 : decode cX6_join 153 = .ok (.iload 4, 2) := by decide +kernel
theorem dX6_join_155 : decode cX6_join 155 = .ok (.invokevirtual 92, 3) := by decide +kernel
theorem dX6_join_158 : decode cX6_join 158 = .ok (.ifCond .eq 47, 3) := by decide +kernel
theorem dX6_join_161 : decode cX6_join 161 = .ok (.aload_n 0, 1) := by decide +kernel
theorem dX6_join_162 : decode cX6_join 162 = .ok (.aload_n 0, 1) := by decide +kernel
theorem dX6_join_163 : decode cX6_join 163 = .ok (.getfield 16, 3) := by decide +kernel
theorem dX6_join_166 : decode cX6_join 166 = .ok (.iload 4, 2) := by decide +kernel
theorem dX6_join_168 : decode cX6_join 168 = .ok (.iaload, 1) := by decide +kernel
theorem dX6_join_169 : decode cX6_join 169 = .ok (.aload_n 0, 1) := by decide +kernel
theorem dX6_join_170 : decode cX6_join 170 = .ok (.getfield 16, 3) := by decide +kernel
theorem dX6_join_173 : decode cX6_join 173 = .ok (.iload 5, 2) := by decide +kernel
theorem dX6_join_175 : decode cX6_join 175 = .ok (.iaload, 1) := by decide +kernel
theorem dX6_join_176 : decode cX6_join 176 = .ok (.iload_n 3, 1) := by decide +kernel
theorem dX6_join_177 : decode cX6_join 177 = .ok (.invokevirtual 108, 3) := by decide +kernel
theorem dX6_join_180 : decode cX6_join 180 = .ok (.ifCond .eq 29, 3) := by decide +kernel
theorem dX6_join_183 : decode cX6_join 183 = .ok (.aload_n 0, 1) := by decide +kernel
theorem dX6_join_184 : decode cX6_join 184 = .ok (.aload_n 0, 1) := by decide +kernel
theorem dX6_join_185 : decode cX6_join 185 = .ok (.getfield 19, 3) := by decide +kernel
theorem dX6_join_188 : decode cX6_join 188 = .ok (.iload 4, 2) := by decide +kernel
theorem dX6_join_190 : decode cX6_join 190 = .ok (.iaload, 1) := by decide +kernel
theorem dX6_join_191 : decode cX6_join 191 = .ok (.aload_n 0, 1) := by decide +kernel
theorem dX6_join_192 : decode cX6_join 192 = .ok (.getfield 19, 3) := by decide +kernel
theorem dX6_join_195 : decode cX6_join 195 = .ok (.iload 5, 2) := by decide +kernel
theorem dX6_join_197 : decode cX6_join 197 = .ok (.iaload, 1) := by decide +kernel
theorem dX6_join_198 : decode cX6_join 198 = .ok (.iload_n 3, 1) := by decide +kernel
theorem dX6_join_199 : decode cX6_join 199 = .ok (.invokevirtual 108, 3) := by decide +kernel
theorem dX6_join_202 : decode cX6_join 202 = .ok (.ifCond .eq 7, 3) := by decide +kernel
theorem dX6_join_205 : decode cX6_join 205 = .ok (.iconst 1, 1) := by decide +kernel
theorem dX6_join_206 : decode cX6_join 206 = .ok (.goto 4, 3) := by decide +kernel
theorem dX6_join_209 : decode cX6_join 209 = .ok (.iconst 0, 1) := by decide +kernel
theorem dX6_join_210 : decode cX6_join 210 = .ok (.ireturn, 1) := by decide +kernel
theorem dX6_isAround_0 : decode cX6_isAround 0 = .ok (.iconst 0, 1) := by decide +kernel
theorem dX6_isAround_1 : decode cX6_isAround 1 = .ok (.istore_n 2, 1) := by decide +kernel
theorem dX6_isAround_2 : decode cX6_isAround 2 = .ok (.iload_n 2, 1) := by decide +kernel
theorem dX6_isAround_3 : decode cX6_isAround 3 = .ok (.aload_n 0, 1) := by decide +kernel
theorem dX6_isAround_4 : decode cX6_isAround 4 = .ok (.getfield 119, 3) := by decide +kernel
theorem dX6_isAround_7 : decode cX6_isAround 7 = .ok (.if_icmp .ge 25, 3) := by decide +kernel
theorem dX6_isAround_10 : decode cX6_isAround 10 = .ok (.aload_n 0, 1) := by decide +kernel
theorem dX6_isAround_11 : decode cX6_isAround 11 = .ok (.aload_n 0, 1) := by decide +kernel
theorem dX6_isAround_12 : decode cX6_isAround 12 = .ok (.getfield 32, 3) := by decide +kernel
theorem dX6_isAround_15 : decode cX6_isAround 15 = .ok (.iload_n 2, 1) := by decide +kernel
theorem dX6_isAround_16 : decode cX6_isAround 16 = .ok (.iaload, 1) := by decide +kernel
theorem dX6_isAround_17 : decode cX6_isAround 17 = .ok (.iload_n 1, 1) := by decide +kernel
theorem dX6_isAround_18 : decode cX6_isAround 18 = .ok (.invokevirtual 95, 3) := by decide +kernel
theorem dX6_isAround_21 : decode cX6_isAround 21 = .ok (.ifCond .eq 5, 3) := by decide +kernel
theorem dX6_isAround_24 : decode cX6_isAround 24 = .ok (.iconst 1, 1) := by decide +kernel
theorem dX6_isAround_25 : decode cX6_isAround 25 = .ok (.ireturn, 1) := by decide +kernel
theorem dX6_isAround_26 : decode cX6_isAround 26 = .ok (.iinc 2 1, 3) := by decide +kernel
theorem dX6_isAround_29 : decode cX6_isAround 29 = .ok (.goto (-27), 3) := by decide +kernel
theorem dX6_isAround_32 : decode cX6_isAround 32 = .ok (.iconst 0, 1) := by decide +kernel
theorem dX6_isAround_33 : decode cX6_isAround 33 = .ok (.ireturn, 1) := by decide +kernel
theorem dX6_own_0 : decode cX6_own 0 = .ok (.aload_n 0, 1) := by decide +kernel
theorem dX6_own_1 : decode cX6_own 1 = .ok (.iload_n 1, 1) := by decide +kernel
theorem dX6_own_2 : decode cX6_own 2 = .ok (.invokevirtual 89, 3) := by decide +kernel
theorem dX6_own_5 : decode cX6_own 5 = .ok (.istore_n 2, 1) := by decide +kernel
theorem dX6_own_6 : decode cX6_own 6 = .ok (.aload_n 0, 1) := by decide +kernel
theorem dX6_own_7 : decode cX6_own 7 = .ok (.iload_n 2, 1) := by decide +kernel
theorem dX6_own_8 : decode cX6_own 8 = .ok (.invokevirtual 92, 3) := by decide +kernel
theorem dX6_own_11 : decode cX6_own 11 = .ok (.ifCond .eq 26, 3) := by decide +kernel
theorem dX6_own_14 : decode cX6_own 14 = .ok (.aload_n 0, 1) := by decide +kernel
theorem dX6_own_15 : decode cX6_own 15 = .ok (.aload_n 0, 1) := by decide +kernel
theorem dX6_own_16 : decode cX6_own 16 = .ok (.getfield 16, 3) := by decide +kernel
theorem dX6_own_19 : decode cX6_own 19 = .ok (.iload_n 2, 1) := by decide +kernel
theorem dX6_own_20 : decode cX6_own 20 = .ok (.iaload, 1) := by decide +kernel
theorem dX6_own_21 : decode cX6_own 21 = .ok (.invokevirtual 122, 3) := by decide +kernel
theorem dX6_own_24 : decode cX6_own 24 = .ok (.aload_n 0, 1) := by decide +kernel
theorem dX6_own_25 : decode cX6_own 25 = .ok (.aload_n 0, 1) := by decide +kernel
theorem dX6_own_26 : decode cX6_own 26 = .ok (.getfield 19, 3) := by decide +kernel
theorem dX6_own_29 : decode cX6_own 29 = .ok (.iload_n 2, 1) := by decide +kernel
theorem dX6_own_30 : decode cX6_own 30 = .ok (.iaload, 1) := by decide +kernel
theorem dX6_own_31 : decode cX6_own 31 = .ok (.invokevirtual 122, 3) := by decide +kernel
theorem dX6_own_34 : decode cX6_own 34 = .ok (.goto 32, 3) := by decide +kernel
theorem dX6_own_37 : decode cX6_own 37 = .ok (.aload_n 0, 1) := by decide +kernel
theorem dX6_own_38 : decode cX6_own 38 = .ok (.getfield 13, 3) := by decide +kernel
theorem dX6_own_41 : decode cX6_own 41 = .ok (.iload_n 2, 1) := by decide +kernel
theorem dX6_own_42 : decode cX6_own 42 = .ok (.iaload, 1) := by decide +kernel
theorem dX6_own_43 : decode cX6_own 43 = .ok (.iconst 4, 1) := by decide +kernel
theorem dX6_own_44 : decode cX6_own 44 = .ok (.if_icmp .ne 22, 3) := by decide +kernel
theorem dX6_own_47 : decode cX6_own 47 = .ok (.aload_n 0, 1) := by decide +kernel
theorem dX6_own_48 : decode cX6_own 48 = .ok (.getfield 22, 3) := by decide +kernel
theorem dX6_own_51 : decode cX6_own 51 = .ok (.iload_n 2, 1) := by decide +kernel
theorem dX6_own_52 : decode cX6_own 52 = .ok (.aload_n 0, 1) := by decide +kernel
theorem dX6_own_53 : decode cX6_own 53 = .ok (.iload_n 2, 1) := by decide +kernel
theorem dX6_own_54 : decode cX6_own 54 = .ok (.invokevirtual 126, 3) := by decide +kernel
theorem dX6_own_57 : decode cX6_own 57 = .ok (.ifCond .ne 7, 3) := by decide +kernel
theorem dX6_own_60 : decode cX6_own 60 = .ok (.iconst 1, 1) := by decide +kernel
theorem dX6_own_61 : decode cX6_own 61 = .ok (.goto 4, 3) := by decide +kernel
theorem dX6_own_64 : decode cX6_own 64 = .ok (.iconst 0, 1) := by decide +kernel
theorem dX6_own_65 : decode cX6_own 65 = .ok (.bastore, 1) := by decide +kernel
theorem dX6_own_66 : decode cX6_own 66 = .ok (.return_, 1) := by decide +kernel
theorem dX6_write_0 : decode cX6_write 0 = .ok (.aload_n 0, 1) := by decide +kernel
theorem dX6_write_1 : decode cX6_write 1 = .ok (.iload_n 1, 1) := by decide +kernel
theorem dX6_write_2 : decode cX6_write 2 = .ok (.invokevirtual 89, 3) := by decide +kernel
theorem dX6_write_5 : decode cX6_write 5 = .ok (.istore 5, 2) := by decide +kernel
theorem dX6_write_7 : decode cX6_write 7 = .ok (.aload_n 0, 1) := by decide +kernel
theorem dX6_write_8 : decode cX6_write 8 = .ok (.iload 5, 2) := by decide +kernel
theorem dX6_write_10 : decode cX6_write 10 = .ok (.invokevirtual 92, 3) := by decide +kernel
theorem dX6_write_13 : decode cX6_write 13 = .ok (.ifCond .eq 45, 3) := by decide +kernel
theorem dX6_write_16 : decode cX6_write 16 = .ok (.aload_n 2, 1) := by decide +kernel
theorem dX6_write_17 : decode cX6_write 17 = .ok (.iload_n 3, 1) := by decide +kernel
theorem dX6_write_18 : decode cX6_write 18 = .ok (.aload_n 0, 1) := by decide +kernel
theorem dX6_write_19 : decode cX6_write 19 = .ok (.getfield 13, 3) := by decide +kernel
theorem dX6_write_22 : decode cX6_write 22 = .ok (.iload 5, 2) := by decide +kernel
theorem dX6_write_24 : decode cX6_write 24 = .ok (.iaload, 1) := by decide +kernel
theorem dX6_write_25 : decode cX6_write 25 = .ok (.iastore, 1) := by decide +kernel
theorem dX6_write_26 : decode cX6_write 26 = .ok (.aload_n 0, 1) := by decide +kernel
theorem dX6_write_27 : decode cX6_write 27 = .ok (.aload_n 0, 1) := by decide +kernel
theorem dX6_write_28 : decode cX6_write 28 = .ok (.getfield 19, 3) := by decide +kernel
theorem dX6_write_31 : decode cX6_write 31 = .ok (.iload 5, 2) := by decide +kernel
theorem dX6_write_33 : decode cX6_write 33 = .ok (.iaload, 1) := by decide +kernel
theorem dX6_write_34 : decode cX6_write 34 = .ok (.aload_n 2, 1) := by decide +kernel
theorem dX6_write_35 : decode cX6_write 35 = .ok (.aload_n 0, 1) := by decide +kernel
theorem dX6_write_36 : decode cX6_write 36 = .ok (.aload_n 0, 1) := by decide +kernel
theorem dX6_write_37 : decode cX6_write 37 = .ok (.getfield 16, 3) := by decide +kernel
theorem dX6_write_40 : decode cX6_write 40 = .ok (.iload 5, 2) := by decide +kernel
theorem dX6_write_42 : decode cX6_write 42 = .ok (.iaload, 1) := by decide +kernel
theorem dX6_write_43 : decode cX6_write 43 = .ok (.aload_n 2, 1) := by decide +kernel
theorem dX6_write_44 : decode cX6_write 44 = .ok (.iload_n 3, 1) := by decide +kernel
theorem dX6_write_45 : decode cX6_write 45 = .ok (.iconst 1, 1) := by decide +kernel
theorem dX6_write_46 : decode cX6_write 46 = .ok (.iadd, 1) := by decide +kernel
theorem dX6_write_47 : decode cX6_write 47 = .ok (.aload 4, 2) := by decide +kernel
theorem dX6_write_49 : decode cX6_write 49 = .ok (.invokevirtual 169, 3) := by decide +kernel
theorem dX6_write_52 : decode cX6_write 52 = .ok (.aload 4, 2) := by decide +kernel
theorem dX6_write_54 : decode cX6_write 54 = .ok (.invokevirtual 169, 3) := by decide +kernel
theorem dX6_write_57 : decode cX6_write 57 = .ok (.ireturn, 1) := by decide +kernel
theorem dX6_write_58 : decode cX6_write 58 = .ok (.aload_n 2, 1) := by decide +kernel
theorem dX6_write_59 : decode cX6_write 59 = .ok (.iload_n 3, 1) := by decide +kernel
theorem dX6_write_60 : decode cX6_write 60 = .ok (.aload_n 0, 1) := by decide +kernel
theorem dX6_write_61 : decode cX6_write 61 = .ok (.getfield 13, 3) := by decide +kernel
theorem dX6_write_64 : decode cX6_write 64 = .ok (.iload 5, 2) := by decide +kernel
theorem dX6_write_66 : decode cX6_write 66 = .ok (.iaload, 1) := by decide +kernel
theorem dX6_write_67 : decode cX6_write 67 = .ok (.iastore, 1) := by decide +kernel
theorem dX6_write_68 : decode cX6_write 68 = .ok (.aload_n 0, 1) := by decide +kernel
theorem dX6_write_69 : decode cX6_write 69 = .ok (.getfield 13, 3) := by decide +kernel
theorem dX6_write_72 : decode cX6_write 72 = .ok (.iload 5, 2) := by decide +kernel
theorem dX6_write_74 : decode cX6_write 74 = .ok (.iaload, 1) := by decide +kernel
theorem dX6_write_75 : decode cX6_write 75 = .ok (.iconst 4, 1) := by decide +kernel
theorem dX6_write_76 : decode cX6_write 76 = .ok (.if_icmp .ne 46, 3) := by decide +kernel
theorem dX6_write_79 : decode cX6_write 79 = .ok (.iconst 0, 1) := by decide +kernel
theorem dX6_write_80 : decode cX6_write 80 = .ok (.istore 6, 2) := by decide +kernel
theorem dX6_write_82 : decode cX6_write 82 = .ok (.aload 4, 2) := by decide +kernel
theorem dX6_write_84 : decode cX6_write 84 = .ok (.iload 6, 2) := by decide +kernel
theorem dX6_write_86 : decode cX6_write 86 = .ok (.iaload, 1) := by decide +kernel
theorem dX6_write_87 : decode cX6_write 87 = .ok (.iload 5, 2) := by decide +kernel
theorem dX6_write_89 : decode cX6_write 89 = .ok (.if_icmp .eq 18, 3) := by decide +kernel
theorem dX6_write_92 : decode cX6_write 92 = .ok (.aload 4, 2) := by decide +kernel
theorem dX6_write_94 : decode cX6_write 94 = .ok (.iload 6, 2) := by decide +kernel
theorem dX6_write_96 : decode cX6_write 96 = .ok (.iaload, 1) := by decide +kernel
theorem dX6_write_97 : decode cX6_write 97 = .ok (.iconst (-1), 1) := by decide +kernel
theorem dX6_write_98 : decode cX6_write 98 = .ok (.if_icmp .eq 9, 3) := by decide +kernel
theorem dX6_write_101 : decode cX6_write 101 = .ok (.iinc 6 1, 3) := by decide +kernel
theorem dX6_write_104 : decode cX6_write 104 = .ok (.goto (-22), 3) := by decide +kernel
theorem dX6_write_107 : decode cX6_write 107 = .ok (.aload 4, 2) := by decide +kernel
theorem dX6_write_109 : decode cX6_write 109 = .ok (.iload 6, 2) := by decide +kernel
theorem dX6_write_111 : decode cX6_write 111 = .ok (.iload 5, 2) := by decide +kernel
theorem dX6_write_113 : decode cX6_write 113 = .ok (.iastore, 1) := by decide +kernel
theorem dX6_write_114 : decode cX6_write 114 = .ok (.aload_n 2, 1) := by decide +kernel
theorem dX6_write_115 : decode cX6_write 115 = .ok (.iload_n 3, 1) := by decide +kernel
theorem dX6_write_116 : decode cX6_write 116 = .ok (.bipush 10, 2) := by decide +kernel
theorem dX6_write_118 : decode cX6_write 118 = .ok (.iload 6, 2) := by decide +kernel
theorem dX6_write_120 : decode cX6_write 120 = .ok (.iadd, 1) := by decide +kernel
theorem dX6_write_121 : decode cX6_write 121 = .ok (.iastore, 1) := by decide +kernel
theorem dX6_write_122 : decode cX6_write 122 = .ok (.iload_n 3, 1) := by decide +kernel
theorem dX6_write_123 : decode cX6_write 123 = .ok (.iconst 1, 1) := by decide +kernel
theorem dX6_write_124 : decode cX6_write 124 = .ok (.iadd, 1) := by decide +kernel
theorem dX6_write_125 : decode cX6_write 125 = .ok (.ireturn, 1) := by decide +kernel
theorem dX6_deep_0 : decode cX6_deep 0 = .ok (.aload_n 0, 1) := by decide +kernel
theorem dX6_deep_1 : decode cX6_deep 1 = .ok (.iload_n 1, 1) := by decide +kernel
theorem dX6_deep_2 : decode cX6_deep 2 = .ok (.invokevirtual 89, 3) := by decide +kernel
theorem dX6_deep_5 : decode cX6_deep 5 = .ok (.istore_n 2, 1) := by decide +kernel
theorem dX6_deep_6 : decode cX6_deep 6 = .ok (.aload_n 0, 1) := by decide +kernel
theorem dX6_deep_7 : decode cX6_deep 7 = .ok (.iload_n 2, 1) := by decide +kernel
theorem dX6_deep_8 : decode cX6_deep 8 = .ok (.invokevirtual 92, 3) := by decide +kernel
theorem dX6_deep_11 : decode cX6_deep 11 = .ok (.ifCond .eq 31, 3) := by decide +kernel
theorem dX6_deep_14 : decode cX6_deep 14 = .ok (.iconst 1, 1) := by decide +kernel
theorem dX6_deep_15 : decode cX6_deep 15 = .ok (.aload_n 0, 1) := by decide +kernel
theorem dX6_deep_16 : decode cX6_deep 16 = .ok (.aload_n 0, 1) := by decide +kernel
theorem dX6_deep_17 : decode cX6_deep 17 = .ok (.getfield 16, 3) := by decide +kernel
theorem dX6_deep_20 : decode cX6_deep 20 = .ok (.iload_n 2, 1) := by decide +kernel
theorem dX6_deep_21 : decode cX6_deep 21 = .ok (.iaload, 1) := by decide +kernel
theorem dX6_deep_22 : decode cX6_deep 22 = .ok (.invokevirtual 176, 3) := by decide +kernel
theorem dX6_deep_25 : decode cX6_deep 25 = .ok (.aload_n 0, 1) := by decide +kernel
theorem dX6_deep_26 : decode cX6_deep 26 = .ok (.aload_n 0, 1) := by decide +kernel
theorem dX6_deep_27 : decode cX6_deep 27 = .ok (.getfield 19, 3) := by decide +kernel
theorem dX6_deep_30 : decode cX6_deep 30 = .ok (.iload_n 2, 1) := by decide +kernel
theorem dX6_deep_31 : decode cX6_deep 31 = .ok (.iaload, 1) := by decide +kernel
theorem dX6_deep_32 : decode cX6_deep 32 = .ok (.invokevirtual 176, 3) := by decide +kernel
theorem dX6_deep_35 : decode cX6_deep 35 = .ok (.invokestatic 179, 3) := by decide +kernel
theorem dX6_deep_38 : decode cX6_deep 38 = .ok (.iadd, 1) := by decide +kernel
theorem dX6_deep_39 : decode cX6_deep 39 = .ok (.goto 4, 3) := by decide +kernel
theorem dX6_deep_42 : decode cX6_deep 42 = .ok (.iconst 1, 1) := by decide +kernel
theorem dX6_deep_43 : decode cX6_deep 43 = .ok (.ireturn, 1) := by decide +kernel
theorem dX6_depth_0 : decode cX6_depth 0 = .ok (.iconst 0, 1) := by decide +kernel
theorem dX6_depth_1 : decode cX6_depth 1 = .ok (.istore_n 2, 1) := by decide +kernel
theorem dX6_depth_2 : decode cX6_depth 2 = .ok (.iconst 0, 1) := by decide +kernel
theorem dX6_depth_3 : decode cX6_depth 3 = .ok (.istore_n 3, 1) := by decide +kernel
theorem dX6_depth_4 : decode cX6_depth 4 = .ok (.iload_n 3, 1) := by decide +kernel
theorem dX6_depth_5 : decode cX6_depth 5 = .ok (.iconst 3, 1) := by decide +kernel
theorem dX6_depth_6 : decode cX6_depth 6 = .ok (.if_icmp .ge 38, 3) := by decide +kernel
theorem dX6_depth_9 : decode cX6_depth 9 = .ok (.aload_n 0, 1) := by decide +kernel
theorem dX6_depth_10 : decode cX6_depth 10 = .ok (.iload_n 1, 1) := by decide +kernel
theorem dX6_depth_11 : decode cX6_depth 11 = .ok (.iconst 1, 1) := by decide +kernel
theorem dX6_depth_12 : decode cX6_depth 12 = .ok (.iload_n 3, 1) := by decide +kernel
theorem dX6_depth_13 : decode cX6_depth 13 = .ok (.iadd, 1) := by decide +kernel
theorem dX6_depth_14 : decode cX6_depth 14 = .ok (.invokevirtual 46, 3) := by decide +kernel
theorem dX6_depth_17 : decode cX6_depth 17 = .ok (.iconst (-1), 1) := by decide +kernel
theorem dX6_depth_18 : decode cX6_depth 18 = .ok (.if_icmp .eq 20, 3) := by decide +kernel
theorem dX6_depth_21 : decode cX6_depth 21 = .ok (.iload_n 2, 1) := by decide +kernel
theorem dX6_depth_22 : decode cX6_depth 22 = .ok (.aload_n 0, 1) := by decide +kernel
theorem dX6_depth_23 : decode cX6_depth 23 = .ok (.aload_n 0, 1) := by decide +kernel
theorem dX6_depth_24 : decode cX6_depth 24 = .ok (.iload_n 1, 1) := by decide +kernel
theorem dX6_depth_25 : decode cX6_depth 25 = .ok (.iconst 1, 1) := by decide +kernel
theorem dX6_depth_26 : decode cX6_depth 26 = .ok (.iload_n 3, 1) := by decide +kernel
theorem dX6_depth_27 : decode cX6_depth 27 = .ok (.iadd, 1) := by decide +kernel
theorem dX6_depth_28 : decode cX6_depth 28 = .ok (.invokevirtual 46, 3) := by decide +kernel
theorem dX6_depth_31 : decode cX6_depth 31 = .ok (.invokevirtual 182, 3) := by decide +kernel
theorem dX6_depth_34 : decode cX6_depth 34 = .ok (.invokestatic 179, 3) := by decide +kernel
theorem dX6_depth_37 : decode cX6_depth 37 = .ok (.istore_n 2, 1) := by decide +kernel
theorem dX6_depth_38 : decode cX6_depth 38 = .ok (.iinc 3 1, 3) := by decide +kernel
theorem dX6_depth_41 : decode cX6_depth 41 = .ok (.goto (-37), 3) := by decide +kernel
theorem dX6_depth_44 : decode cX6_depth 44 = .ok (.iload_n 2, 1) := by decide +kernel
theorem dX6_depth_45 : decode cX6_depth 45 = .ok (.iconst 1, 1) := by decide +kernel
theorem dX6_depth_46 : decode cX6_depth 46 = .ok (.iadd, 1) := by decide +kernel
theorem dX6_depth_47 : decode cX6_depth 47 = .ok (.ireturn, 1) := by decide +kernel
theorem dX6_behind_0 : decode cX6_behind 0 = .ok (.aload_n 0, 1) := by decide +kernel
theorem dX6_behind_1 : decode cX6_behind 1 = .ok (.iload_n 1, 1) := by decide +kernel
theorem dX6_behind_2 : decode cX6_behind 2 = .ok (.iaload, 1) := by decide +kernel
theorem dX6_behind_3 : decode cX6_behind 3 = .ok (.iconst 2, 1) := by decide +kernel
theorem dX6_behind_4 : decode cX6_behind 4 = .ok (.if_icmp .eq 10, 3) := by decide +kernel
theorem dX6_behind_7 : decode cX6_behind 7 = .ok (.aload_n 0, 1) := by decide +kernel
theorem dX6_behind_8 : decode cX6_behind 8 = .ok (.iload_n 1, 1) := by decide +kernel
theorem dX6_behind_9 : decode cX6_behind 9 = .ok (.iaload, 1) := by decide +kernel
theorem dX6_behind_10 : decode cX6_behind 10 = .ok (.iconst 3, 1) := by decide +kernel
theorem dX6_behind_11 : decode cX6_behind 11 = .ok (.if_icmp .ne 17, 3) := by decide +kernel
theorem dX6_behind_14 : decode cX6_behind 14 = .ok (.aload_n 0, 1) := by decide +kernel
theorem dX6_behind_15 : decode cX6_behind 15 = .ok (.aload_n 0, 1) := by decide +kernel
theorem dX6_behind_16 : decode cX6_behind 16 = .ok (.iload_n 1, 1) := by decide +kernel
theorem dX6_behind_17 : decode cX6_behind 17 = .ok (.iconst 1, 1) := by decide +kernel
theorem dX6_behind_18 : decode cX6_behind 18 = .ok (.iadd, 1) := by decide +kernel
theorem dX6_behind_19 : decode cX6_behind 19 = .ok (.invokestatic 198, 3) := by decide +kernel
theorem dX6_behind_22 : decode cX6_behind 22 = .ok (.invokestatic 198, 3) := by decide +kernel
theorem dX6_behind_25 : decode cX6_behind 25 = .ok (.goto 6, 3) := by decide +kernel
theorem dX6_behind_28 : decode cX6_behind 28 = .ok (.iload_n 1, 1) := by decide +kernel
theorem dX6_behind_29 : decode cX6_behind 29 = .ok (.iconst 1, 1) := by decide +kernel
theorem dX6_behind_30 : decode cX6_behind 30 = .ok (.iadd, 1) := by decide +kernel
theorem dX6_behind_31 : decode cX6_behind 31 = .ok (.ireturn, 1) := by decide +kernel
theorem dX6_partTold_0 : decode cX6_partTold 0 = .ok (.iload_n 2, 1) := by decide +kernel
theorem dX6_partTold_1 : decode cX6_partTold 1 = .ok (.bipush 6, 2) := by decide +kernel
theorem dX6_partTold_3 : decode cX6_partTold 3 = .ok (.if_icmp .ge 12, 3) := by decide +kernel
theorem dX6_partTold_6 : decode cX6_partTold 6 = .ok (.aload_n 0, 1) := by decide +kernel
theorem dX6_partTold_7 : decode cX6_partTold 7 = .ok (.iload_n 1, 1) := by decide +kernel
theorem dX6_partTold_8 : decode cX6_partTold 8 = .ok (.iload_n 2, 1) := by decide +kernel
theorem dX6_partTold_9 : decode cX6_partTold 9 = .ok (.invokevirtual 46, 3) := by decide +kernel
theorem dX6_partTold_12 : decode cX6_partTold 12 = .ok (.goto 8, 3) := by decide +kernel
theorem dX6_partTold_15 : decode cX6_partTold 15 = .ok (.aload_n 0, 1) := by decide +kernel
theorem dX6_partTold_16 : decode cX6_partTold 16 = .ok (.iload_n 1, 1) := by decide +kernel
theorem dX6_partTold_17 : decode cX6_partTold 17 = .ok (.invokevirtual 182, 3) := by decide +kernel
theorem dX6_partTold_20 : decode cX6_partTold 20 = .ok (.ireturn, 1) := by decide +kernel
theorem dX6_part_0 : decode cX6_part 0 = .ok (.aload_n 0, 1) := by decide +kernel
theorem dX6_part_1 : decode cX6_part 1 = .ok (.iconst 0, 1) := by decide +kernel
theorem dX6_part_2 : decode cX6_part 2 = .ok (.putfield 35, 3) := by decide +kernel
theorem dX6_part_5 : decode cX6_part 5 = .ok (.aload_n 0, 1) := by decide +kernel
theorem dX6_part_6 : decode cX6_part 6 = .ok (.iload_n 1, 1) := by decide +kernel
theorem dX6_part_7 : decode cX6_part 7 = .ok (.invokevirtual 75, 3) := by decide +kernel
theorem dX6_part_10 : decode cX6_part 10 = .ok (.ifCond .eq 22, 3) := by decide +kernel
theorem dX6_part_13 : decode cX6_part 13 = .ok (.iload_n 2, 1) := by decide +kernel
theorem dX6_part_14 : decode cX6_part 14 = .ok (.iconst 0, 1) := by decide +kernel
theorem dX6_part_15 : decode cX6_part 15 = .ok (.bipush 6, 2) := by decide +kernel
theorem dX6_part_17 : decode cX6_part 17 = .ok (.invokestatic 42, 3) := by decide +kernel
theorem dX6_part_20 : decode cX6_part 20 = .ok (.ifCond .eq 12, 3) := by decide +kernel
theorem dX6_part_23 : decode cX6_part 23 = .ok (.aload_n 0, 1) := by decide +kernel
theorem dX6_part_24 : decode cX6_part 24 = .ok (.iload_n 1, 1) := by decide +kernel
theorem dX6_part_25 : decode cX6_part 25 = .ok (.iload_n 2, 1) := by decide +kernel
theorem dX6_part_26 : decode cX6_part 26 = .ok (.invokevirtual 185, 3) := by decide +kernel
theorem dX6_part_29 : decode cX6_part 29 = .ok (.goto 8, 3) := by decide +kernel
theorem dX6_part_32 : decode cX6_part 32 = .ok (.aload_n 0, 1) := by decide +kernel
theorem dX6_part_33 : decode cX6_part 33 = .ok (.iconst 1, 1) := by decide +kernel
theorem dX6_part_34 : decode cX6_part 34 = .ok (.invokevirtual 60, 3) := by decide +kernel
theorem dX6_part_37 : decode cX6_part 37 = .ok (.ireturn, 1) := by decide +kernel
section M1
variable {p : Program} {l : Launch} {e : Env} {R : Room} {s : State} {m : MethodId} {args : Array Value} {below : List Frame} {meth : Method} {c : Code} {D : va_G} {g : gT} {N : Nat} {ad ln ad0 ln0 : Nat → Nat}
def mX6_thrown_b0 (cp : Nat) (A : gM) : Option (gM × Int32) :=
  some (A, (A 183 0))
def mX6_thrown (cp : Nat) (A : gM) : Option (gM × Int32) := mX6_thrown_b0 cp A
set_option maxHeartbeats 2000000 in
set_option maxRecDepth 20000 in
theorem wX6_thrown_b0 (hN : 193 ≤ N) {cp : Nat} (hcp : g_cap ln cp) {A0 A' : gM} {r : Int32} (C : gC p R s m args meth c cX6_thrown RX6 1 D g (va_A (gw g ad ln A0 N) s.heap.size) 0) (hr : meth.sig.returnType = some .int)  {A : gM} (h : mX6_thrown_b0 cp A = some (A', r)) : gJ p l e R s m args below meth c (gEi below D g N ad ln A0 A' r args s) 1 D g (va_A (gw g ad ln A0 N) s.heap.size) N ad ln A [(0, gr 183)] 0 0 0 [] := by
  unfold mX6_thrown_b0 at h
  refine g_aload_n C 0 dX6_thrown_0 rfl ?_
  refine g_get (v := gi (A 183 0)) C 183 0 (by omega) rfl rfl gu_6 (by decide) qf_X6_35 rfl dX6_thrown_1 ?_
  obtain ⟨rfl, rfl⟩ := Prod.mk.inj (Option.some.inj h)
  exact g_reti C hr dX6_thrown_4

set_option maxHeartbeats 2000000 in
set_option maxRecDepth 20000 in
theorem kX6_thrown {l : Launch} {D : va_G} {g : gT} {N : Nat} {ad ln : Nat → Nat} (hN : 193 ≤ N) {cp : Nat} (hcp : g_cap ln cp) {A A' : gM} {r : Int32} (h : mX6_thrown cp A = some (A', r)) : gKi l yX6_thrown cX6_thrown 1 (some .int) (0) D g N ad ln A [gr 183] A' r := by
  refine g_meti (by decide) (Nat.le_of_ble_eq_true rfl) ?_
  intro p e s m args below meth c C hr
  refine g_sub [0] rfl ?_
  exact wX6_thrown_b0 hN hcp C hr h
def mX6_fail_b0 (cp : Nat) (A : gM) (x1 : Int32) : Option (gM × Int32) :=
  g_let (g_up A 183 0 x1) fun A1 =>
  some (A1, 0)
def mX6_fail (cp : Nat) (A : gM) (x1 : Int32) : Option (gM × Int32) := mX6_fail_b0 cp A x1
set_option maxHeartbeats 2000000 in
set_option maxRecDepth 20000 in
theorem wX6_fail_b0 (hN : 193 ≤ N) {cp : Nat} (hcp : g_cap ln cp) {A0 A' : gM} {r : Int32} (C : gC p R s m args meth c cX6_fail RX6 2 D g (va_A (gw g ad ln A0 N) s.heap.size) 0) (hr : meth.sig.returnType = some .int)  {A : gM} {x1 : Int32} (h : mX6_fail_b0 cp A x1 = some (A', r)) : gJ p l e R s m args below meth c (gEi below D g N ad ln A0 A' r args s) 2 D g (va_A (gw g ad ln A0 N) s.heap.size) N ad ln A [(0, gr 183), (1, gi x1)] 0 0 0 [] := by
  unfold mX6_fail_b0 at h
  refine g_aload_n C 0 dX6_fail_0 rfl ?_
  refine g_iload_n C 1 dX6_fail_1 rfl ?_
  obtain ⟨A1, eA1, h⟩ := g_lt h
  refine g_put C 183 0 tyX6 tyX6_ok nmX6 (by omega) rfl rfl gu_6 (by decide) qf_X6_35 rfl (by decide +kernel) (Nat.le_of_ble_eq_true rfl) rfl eA1 dX6_fail_2 ?_
  refine g_iconst (v := 0) C dX6_fail_5 (by decide) ?_
  obtain ⟨rfl, rfl⟩ := Prod.mk.inj (Option.some.inj h)
  exact g_reti C hr dX6_fail_6

set_option maxHeartbeats 2000000 in
set_option maxRecDepth 20000 in
theorem kX6_fail {l : Launch} {D : va_G} {g : gT} {N : Nat} {ad ln : Nat → Nat} (hN : 193 ≤ N) {cp : Nat} (hcp : g_cap ln cp) {A A' : gM} {x1 : Int32} {r : Int32} (h : mX6_fail cp A x1 = some (A', r)) : gKi l yX6_fail cX6_fail 2 (some .int) (0) D g N ad ln A [gr 183, gi x1] A' r := by
  refine g_meti (by decide) (Nat.le_of_ble_eq_true rfl) ?_
  intro p e s m args below meth c C hr
  refine g_sub [0, 1] rfl ?_
  exact wX6_fail_b0 hN hcp C hr h
def mX6_isIn_b15 (cp : Nat) (A : gM) (s0 : Int32) : Option (gM × Int32) :=
  if (s0 : Int32) = 0 ∨ (s0 : Int32) = 1 then some (A, s0) else none
def mX6_isIn_b14 (cp : Nat) (A : gM) : Option (gM × Int32) :=
  mX6_isIn_b15 cp A 0
def mX6_isIn_b0 (cp : Nat) (A : gM) (x0 : Int32) (x1 : Int32) (x2 : Int32) : Option (gM × Int32) :=
  if x0 < x1 then
  mX6_isIn_b14 cp A
  else
  if x2 < x0 then
  mX6_isIn_b14 cp A
  else
  mX6_isIn_b15 cp A 1
def mX6_isIn (cp : Nat) (A : gM) (x0 : Int32) (x1 : Int32) (x2 : Int32) : Option (gM × Int32) := mX6_isIn_b0 cp A x0 x1 x2
set_option maxHeartbeats 2000000 in
set_option maxRecDepth 20000 in
theorem wX6_isIn_b15 (hN : 193 ≤ N) {cp : Nat} (hcp : g_cap ln cp) {A0 A' : gM} {r : Int32} (C : gC p R s m args meth c cX6_isIn RX6 3 D g (va_A (gw g ad ln A0 N) s.heap.size) 0) (hr : meth.sig.returnType = some .boolean)  {A : gM} {s0 : Int32} (h : mX6_isIn_b15 cp A s0 = some (A', r)) : gJ p l e R s m args below meth c (gEi below D g N ad ln A0 A' r args s) 3 D g (va_A (gw g ad ln A0 N) s.heap.size) N ad ln A [] 0 0 15 [gi s0] := by
  unfold mX6_isIn_b15 at h
  obtain ⟨hz1, h⟩ := g_gd h
  obtain ⟨rfl, rfl⟩ := Prod.mk.inj (Option.some.inj h)
  exact g_retz C hr hz1 dX6_isIn_15

set_option maxHeartbeats 2000000 in
set_option maxRecDepth 20000 in
theorem wX6_isIn_b14 (hN : 193 ≤ N) {cp : Nat} (hcp : g_cap ln cp) {A0 A' : gM} {r : Int32} (C : gC p R s m args meth c cX6_isIn RX6 3 D g (va_A (gw g ad ln A0 N) s.heap.size) 0) (hr : meth.sig.returnType = some .boolean)  {A : gM} (h : mX6_isIn_b14 cp A = some (A', r)) : gJ p l e R s m args below meth c (gEi below D g N ad ln A0 A' r args s) 3 D g (va_A (gw g ad ln A0 N) s.heap.size) N ad ln A [] 0 0 14 [] := by
  unfold mX6_isIn_b14 at h
  refine g_iconst (v := 0) C dX6_isIn_14 (by decide) ?_
  refine g_sub [] rfl ?_
  exact wX6_isIn_b15 hN hcp C hr h

set_option maxHeartbeats 2000000 in
set_option maxRecDepth 20000 in
theorem wX6_isIn_b0 (hN : 193 ≤ N) {cp : Nat} (hcp : g_cap ln cp) {A0 A' : gM} {r : Int32} (C : gC p R s m args meth c cX6_isIn RX6 3 D g (va_A (gw g ad ln A0 N) s.heap.size) 0) (hr : meth.sig.returnType = some .boolean)  {A : gM} {x0 : Int32} {x1 : Int32} {x2 : Int32} (h : mX6_isIn_b0 cp A x0 x1 x2 = some (A', r)) : gJ p l e R s m args below meth c (gEi below D g N ad ln A0 A' r args s) 3 D g (va_A (gw g ad ln A0 N) s.heap.size) N ad ln A [(0, gi x0), (1, gi x1), (2, gi x2)] 0 0 0 [] := by
  unfold mX6_isIn_b0 at h
  refine g_iload_n C 0 dX6_isIn_0 rfl ?_
  refine g_iload_n C 1 dX6_isIn_1 rfl ?_
  refine g_icmp_lt C dX6_isIn_2 (tgt := 14) (by decide) (fun c1 => ?_) (fun c1 => ?_)
  · have h := g_tt c1 h
    refine g_sub [] rfl ?_
    exact wX6_isIn_b14 hN hcp C hr h
  · have h := g_ff c1 h
    refine g_iload_n C 0 dX6_isIn_5 rfl ?_
    refine g_iload_n C 2 dX6_isIn_6 rfl ?_
    refine g_icmp_gt C dX6_isIn_7 (tgt := 14) (by decide) (fun c2 => ?_) (fun c2 => ?_)
    · have h := g_tt c2 h
      refine g_sub [] rfl ?_
      exact wX6_isIn_b14 hN hcp C hr h
    · have h := g_ff c2 h
      refine g_iconst (v := 1) C dX6_isIn_10 (by decide) ?_
      refine g_goto C dX6_isIn_11 (tgt := 15) (by decide) ?_
      refine g_sub [] rfl ?_
      exact wX6_isIn_b15 hN hcp C hr h

set_option maxHeartbeats 2000000 in
set_option maxRecDepth 20000 in
theorem kX6_isIn {l : Launch} {D : va_G} {g : gT} {N : Nat} {ad ln : Nat → Nat} (hN : 193 ≤ N) {cp : Nat} (hcp : g_cap ln cp) {A A' : gM} {x0 : Int32} {x1 : Int32} {x2 : Int32} {r : Int32} (h : mX6_isIn cp A x0 x1 x2 = some (A', r)) : gKi l yX6_isIn cX6_isIn 3 (some .boolean) (0) D g N ad ln A [gi x0, gi x1, gi x2] A' r := by
  refine g_meti (by decide) (Nat.le_of_ble_eq_true rfl) ?_
  intro p e s m args below meth c C hr
  refine g_sub [0, 1, 2] rfl ?_
  exact wX6_isIn_b0 hN hcp C hr h
def mX6_isPart_b0 (cp : Nat) (A : gM) (x1 : Int32) : Option (gM × Int32) :=
  (mX6_isIn cp A x1 0 ((A 183 1) - 1)).bind fun q1 =>
  if (q1.2 : Int32) = 0 ∨ (q1.2 : Int32) = 1 then some (q1.1, q1.2) else none
def mX6_isPart (cp : Nat) (A : gM) (x1 : Int32) : Option (gM × Int32) := mX6_isPart_b0 cp A x1
set_option maxHeartbeats 2000000 in
set_option maxRecDepth 20000 in
theorem wX6_isPart_b0 (hN : 193 ≤ N) {cp : Nat} (hcp : g_cap ln cp) {A0 A' : gM} {r : Int32} (C : gC p R s m args meth c cX6_isPart RX6 2 D g (va_A (gw g ad ln A0 N) s.heap.size) 1) (hr : meth.sig.returnType = some .boolean)  {A : gM} {x1 : Int32} (h : mX6_isPart_b0 cp A x1 = some (A', r)) : gJ p l e R s m args below meth c (gEi below D g N ad ln A0 A' r args s) 2 D g (va_A (gw g ad ln A0 N) s.heap.size) N ad ln A [(0, gr 183), (1, gi x1)] 0 0 0 [] := by
  unfold mX6_isPart_b0 at h
  refine g_iload_n C 1 dX6_isPart_0 rfl ?_
  refine g_iconst (v := 0) C dX6_isPart_1 (by decide) ?_
  refine g_aload_n C 0 dX6_isPart_2 rfl ?_
  refine g_get (v := gi (A 183 1)) C 183 1 (by omega) rfl rfl gu_6 (by decide) qf_X6_39 rfl dX6_isPart_3 ?_
  refine g_iconst (v := 1) C dX6_isPart_6 (by decide) ?_
  refine g_isub C dX6_isPart_7 ?_
  obtain ⟨q1, eq1, h⟩ := g_bd h
  refine g_calliS C [gi x1, gi 0, gi ((A 183 1) - 1)] (kX6_isIn hN hcp eq1) qs_X6_42 (by omega) rfl rfl (Nat.le_of_ble_eq_true rfl) ⟨Nat.zero_le _, Nat.zero_le _⟩ dX6_isPart_8 ?_
  obtain ⟨hz2, h⟩ := g_gd h
  obtain ⟨rfl, rfl⟩ := Prod.mk.inj (Option.some.inj h)
  exact g_retz C hr hz2 dX6_isPart_11

set_option maxHeartbeats 2000000 in
set_option maxRecDepth 20000 in
theorem kX6_isPart {l : Launch} {D : va_G} {g : gT} {N : Nat} {ad ln : Nat → Nat} (hN : 193 ≤ N) {cp : Nat} (hcp : g_cap ln cp) {A A' : gM} {x1 : Int32} {r : Int32} (h : mX6_isPart cp A x1 = some (A', r)) : gKi l yX6_isPart cX6_isPart 2 (some .boolean) (1) D g N ad ln A [gr 183, gi x1] A' r := by
  refine g_meti (by decide) (Nat.le_of_ble_eq_true rfl) ?_
  intro p e s m args below meth c C hr
  refine g_sub [0, 1] rfl ?_
  exact wX6_isPart_b0 hN hcp C hr h
def mX6_pa_b0 (cp : Nat) (A : gM) (x1 : Int32) (x2 : Int32) : Option (gM × Int32) :=
  if g_in ((6 * x1) + x2) 246 = true then
  some (A, (A 184 ((6 * x1) + x2).toNatClampNeg))
  else none
def mX6_pa (cp : Nat) (A : gM) (x1 : Int32) (x2 : Int32) : Option (gM × Int32) := mX6_pa_b0 cp A x1 x2
set_option maxHeartbeats 2000000 in
set_option maxRecDepth 20000 in
theorem wX6_pa_b0 (hN : 193 ≤ N) {cp : Nat} (hcp : g_cap ln cp) {A0 A' : gM} {r : Int32} (C : gC p R s m args meth c cX6_pa RX6 3 D g (va_A (gw g ad ln A0 N) s.heap.size) 0) (hr : meth.sig.returnType = some .int)  {A : gM} {x1 : Int32} {x2 : Int32} (h : mX6_pa_b0 cp A x1 x2 = some (A', r)) : gJ p l e R s m args below meth c (gEi below D g N ad ln A0 A' r args s) 3 D g (va_A (gw g ad ln A0 N) s.heap.size) N ad ln A [(0, gr 183), (1, gi x1), (2, gi x2)] 0 0 0 [] := by
  unfold mX6_pa_b0 at h
  refine g_aload_n C 0 dX6_pa_0 rfl ?_
  refine g_get (v := gr 184) C 183 2 (by omega) rfl rfl gu_6 (by decide) qf_X6_9 rfl dX6_pa_1 ?_
  refine g_bipush (v := 6) C dX6_pa_4 (by decide) ?_
  refine g_iload_n C 1 dX6_pa_6 rfl ?_
  refine g_imul C dX6_pa_7 ?_
  refine g_iload_n C 2 dX6_pa_8 rfl ?_
  refine g_iadd C dX6_pa_9 ?_
  obtain ⟨hg1, h⟩ := g_gd h
  refine g_iald C 184 (by omega) rfl rfl hg1 dX6_pa_10 ?_
  obtain ⟨rfl, rfl⟩ := Prod.mk.inj (Option.some.inj h)
  exact g_reti C hr dX6_pa_11

set_option maxHeartbeats 2000000 in
set_option maxRecDepth 20000 in
theorem kX6_pa {l : Launch} {D : va_G} {g : gT} {N : Nat} {ad ln : Nat → Nat} (hN : 193 ≤ N) {cp : Nat} (hcp : g_cap ln cp) {A A' : gM} {x1 : Int32} {x2 : Int32} {r : Int32} (h : mX6_pa cp A x1 x2 = some (A', r)) : gKi l yX6_pa cX6_pa 3 (some .int) (0) D g N ad ln A [gr 183, gi x1, gi x2] A' r := by
  refine g_meti (by decide) (Nat.le_of_ble_eq_true rfl) ?_
  intro p e s m args below meth c C hr
  refine g_sub [0, 1, 2] rfl ?_
  exact wX6_pa_b0 hN hcp C hr h
def mX6_size_b15 (cp : Nat) (A : gM) (s0 : Int32) : Option (gM × Int32) :=
  some (A, s0)
def mX6_size_b0 (cp : Nat) (A : gM) (x1 : Int32) : Option (gM × Int32) :=
  if x1 = (-1) then
  mX6_size_b15 cp A 0
  else
  (mX6_pa cp A x1 5).bind fun q2 =>
  mX6_size_b15 cp q2.1 q2.2
def mX6_size (cp : Nat) (A : gM) (x1 : Int32) : Option (gM × Int32) := mX6_size_b0 cp A x1
set_option maxHeartbeats 2000000 in
set_option maxRecDepth 20000 in
theorem wX6_size_b15 (hN : 193 ≤ N) {cp : Nat} (hcp : g_cap ln cp) {A0 A' : gM} {r : Int32} (C : gC p R s m args meth c cX6_size RX6 2 D g (va_A (gw g ad ln A0 N) s.heap.size) 1) (hr : meth.sig.returnType = some .int)  {A : gM} {s0 : Int32} (h : mX6_size_b15 cp A s0 = some (A', r)) : gJ p l e R s m args below meth c (gEi below D g N ad ln A0 A' r args s) 2 D g (va_A (gw g ad ln A0 N) s.heap.size) N ad ln A [] 0 0 15 [gi s0] := by
  unfold mX6_size_b15 at h
  obtain ⟨rfl, rfl⟩ := Prod.mk.inj (Option.some.inj h)
  exact g_reti C hr dX6_size_15

set_option maxHeartbeats 2000000 in
set_option maxRecDepth 20000 in
theorem wX6_size_b0 (hN : 193 ≤ N) {cp : Nat} (hcp : g_cap ln cp) {A0 A' : gM} {r : Int32} (C : gC p R s m args meth c cX6_size RX6 2 D g (va_A (gw g ad ln A0 N) s.heap.size) 1) (hr : meth.sig.returnType = some .int)  {A : gM} {x1 : Int32} (h : mX6_size_b0 cp A x1 = some (A', r)) : gJ p l e R s m args below meth c (gEi below D g N ad ln A0 A' r args s) 2 D g (va_A (gw g ad ln A0 N) s.heap.size) N ad ln A [(0, gr 183), (1, gi x1)] 0 0 0 [] := by
  unfold mX6_size_b0 at h
  refine g_iload_n C 1 dX6_size_0 rfl ?_
  refine g_iconst (v := (-1)) C dX6_size_1 (by decide) ?_
  refine g_icmp_ne C dX6_size_2 (tgt := 9) (by decide) (fun c1 => ?_) (fun c1 => ?_)
  · have h := g_ff c1 h
    refine g_aload_n C 0 dX6_size_9 rfl ?_
    refine g_iload_n C 1 dX6_size_10 rfl ?_
    refine g_iconst (v := 5) C dX6_size_11 (by decide) ?_
    obtain ⟨q2, eq2, h⟩ := g_bd h
    refine g_calliV C 183 [gi x1, gi 5] (kX6_pa hN hcp eq2) qs_X6_46 (by omega) (by omega) rfl rfl rfl rfl (Nat.le_of_ble_eq_true rfl) ⟨Nat.zero_le _, Nat.zero_le _⟩ dX6_size_12 ?_
    refine g_sub [] rfl ?_
    exact wX6_size_b15 hN hcp C hr h
  · have h := g_tt c1 h
    refine g_iconst (v := 0) C dX6_size_5 (by decide) ?_
    refine g_goto C dX6_size_6 (tgt := 15) (by decide) ?_
    refine g_sub [] rfl ?_
    exact wX6_size_b15 hN hcp C hr h

set_option maxHeartbeats 2000000 in
set_option maxRecDepth 20000 in
theorem kX6_size {l : Launch} {D : va_G} {g : gT} {N : Nat} {ad ln : Nat → Nat} (hN : 193 ≤ N) {cp : Nat} (hcp : g_cap ln cp) {A A' : gM} {x1 : Int32} {r : Int32} (h : mX6_size cp A x1 = some (A', r)) : gKi l yX6_size cX6_size 2 (some .int) (1) D g N ad ln A [gr 183, gi x1] A' r := by
  refine g_meti (by decide) (Nat.le_of_ble_eq_true rfl) ?_
  intro p e s m args below meth c C hr
  refine g_sub [0, 1] rfl ?_
  exact wX6_size_b0 hN hcp C hr h
def mX6_isName_b0 (cp : Nat) (A : gM) (x0 : Int32) : Option (gM × Int32) :=
  (mX6_isIn cp A x0 0 9).bind fun q1 =>
  if (q1.2 : Int32) = 0 ∨ (q1.2 : Int32) = 1 then some (q1.1, q1.2) else none
def mX6_isName (cp : Nat) (A : gM) (x0 : Int32) : Option (gM × Int32) := mX6_isName_b0 cp A x0
set_option maxHeartbeats 2000000 in
set_option maxRecDepth 20000 in
theorem wX6_isName_b0 (hN : 193 ≤ N) {cp : Nat} (hcp : g_cap ln cp) {A0 A' : gM} {r : Int32} (C : gC p R s m args meth c cX6_isName RX6 1 D g (va_A (gw g ad ln A0 N) s.heap.size) 1) (hr : meth.sig.returnType = some .boolean)  {A : gM} {x0 : Int32} (h : mX6_isName_b0 cp A x0 = some (A', r)) : gJ p l e R s m args below meth c (gEi below D g N ad ln A0 A' r args s) 1 D g (va_A (gw g ad ln A0 N) s.heap.size) N ad ln A [(0, gi x0)] 0 0 0 [] := by
  unfold mX6_isName_b0 at h
  refine g_iload_n C 0 dX6_isName_0 rfl ?_
  refine g_iconst (v := 0) C dX6_isName_1 (by decide) ?_
  refine g_bipush (v := 9) C dX6_isName_2 (by decide) ?_
  obtain ⟨q1, eq1, h⟩ := g_bd h
  refine g_calliS C [gi x0, gi 0, gi 9] (kX6_isIn hN hcp eq1) qs_X6_42 (by omega) rfl rfl (Nat.le_of_ble_eq_true rfl) ⟨Nat.zero_le _, Nat.zero_le _⟩ dX6_isName_4 ?_
  obtain ⟨hz2, h⟩ := g_gd h
  obtain ⟨rfl, rfl⟩ := Prod.mk.inj (Option.some.inj h)
  exact g_retz C hr hz2 dX6_isName_7

set_option maxHeartbeats 2000000 in
set_option maxRecDepth 20000 in
theorem kX6_isName {l : Launch} {D : va_G} {g : gT} {N : Nat} {ad ln : Nat → Nat} (hN : 193 ≤ N) {cp : Nat} (hcp : g_cap ln cp) {A A' : gM} {x0 : Int32} {r : Int32} (h : mX6_isName cp A x0 = some (A', r)) : gKi l yX6_isName cX6_isName 1 (some .boolean) (1) D g N ad ln A [gi x0] A' r := by
  refine g_meti (by decide) (Nat.le_of_ble_eq_true rfl) ?_
  intro p e s m args below meth c C hr
  refine g_sub [0] rfl ?_
  exact wX6_isName_b0 hN hcp C hr h
def mX6_undo_b0 (cp : Nat) (A : gM) : Option (gM × Int32) :=
  g_let (g_up A 183 0 0) fun A1 =>
  if (A1 183 1) = 0 then
  (mX6_fail cp A1 1).bind fun q4 =>
  some (q4.1, q4.2)
  else
  g_let (g_up A1 183 1 ((A1 183 1) - 1)) fun A3 =>
  some (A3, (A3 183 1))
def mX6_undo (cp : Nat) (A : gM) : Option (gM × Int32) := mX6_undo_b0 cp A
set_option maxHeartbeats 2000000 in
set_option maxRecDepth 20000 in
theorem wX6_undo_b0 (hN : 193 ≤ N) {cp : Nat} (hcp : g_cap ln cp) {A0 A' : gM} {r : Int32} (C : gC p R s m args meth c cX6_undo RX6 1 D g (va_A (gw g ad ln A0 N) s.heap.size) 1) (hr : meth.sig.returnType = some .int)  {A : gM} (h : mX6_undo_b0 cp A = some (A', r)) : gJ p l e R s m args below meth c (gEi below D g N ad ln A0 A' r args s) 1 D g (va_A (gw g ad ln A0 N) s.heap.size) N ad ln A [(0, gr 183)] 0 0 0 [] := by
  unfold mX6_undo_b0 at h
  refine g_aload_n C 0 dX6_undo_0 rfl ?_
  refine g_iconst (v := 0) C dX6_undo_1 (by decide) ?_
  obtain ⟨A1, eA1, h⟩ := g_lt h
  refine g_put C 183 0 tyX6 tyX6_ok nmX6 (by omega) rfl rfl gu_6 (by decide) qf_X6_35 rfl (by decide +kernel) (Nat.le_of_ble_eq_true rfl) rfl eA1 dX6_undo_2 ?_
  refine g_aload_n C 0 dX6_undo_5 rfl ?_
  refine g_get (v := gi (A1 183 1)) C 183 1 (by omega) rfl rfl gu_6 (by decide) qf_X6_39 rfl dX6_undo_6 ?_
  refine g_if_ne C dX6_undo_9 (tgt := 18) (by decide) (fun c2 => ?_) (fun c2 => ?_)
  · have h := g_ff c2 h
    refine g_aload_n C 0 dX6_undo_18 rfl ?_
    refine g_dup_r C dX6_undo_19 ?_
    refine g_get (v := gi (A1 183 1)) C 183 1 (by omega) rfl rfl gu_6 (by decide) qf_X6_39 rfl dX6_undo_20 ?_
    refine g_iconst (v := 1) C dX6_undo_23 (by decide) ?_
    refine g_isub C dX6_undo_24 ?_
    obtain ⟨A3, eA3, h⟩ := g_lt h
    refine g_put C 183 1 tyX6 tyX6_ok nmX6 (by omega) rfl rfl gu_6 (by decide) qf_X6_39 rfl (by decide +kernel) (Nat.le_of_ble_eq_true rfl) rfl eA3 dX6_undo_25 ?_
    refine g_aload_n C 0 dX6_undo_28 rfl ?_
    refine g_get (v := gi (A3 183 1)) C 183 1 (by omega) rfl rfl gu_6 (by decide) qf_X6_39 rfl dX6_undo_29 ?_
    obtain ⟨rfl, rfl⟩ := Prod.mk.inj (Option.some.inj h)
    exact g_reti C hr dX6_undo_32
  · have h := g_tt c2 h
    refine g_aload_n C 0 dX6_undo_12 rfl ?_
    refine g_iconst (v := 1) C dX6_undo_13 (by decide) ?_
    obtain ⟨q4, eq4, h⟩ := g_bd h
    refine g_calliV C 183 [gi 1] (kX6_fail hN hcp eq4) qs_X6_60 (by omega) (by omega) rfl rfl rfl rfl (Nat.le_of_ble_eq_true rfl) ⟨Nat.zero_le _, Nat.zero_le _⟩ dX6_undo_14 ?_
    obtain ⟨rfl, rfl⟩ := Prod.mk.inj (Option.some.inj h)
    exact g_reti C hr dX6_undo_17

set_option maxHeartbeats 2000000 in
set_option maxRecDepth 20000 in
theorem kX6_undo {l : Launch} {D : va_G} {g : gT} {N : Nat} {ad ln : Nat → Nat} (hN : 193 ≤ N) {cp : Nat} (hcp : g_cap ln cp) {A A' : gM} {r : Int32} (h : mX6_undo cp A = some (A', r)) : gKi l yX6_undo cX6_undo 1 (some .int) (1) D g N ad ln A [gr 183] A' r := by
  refine g_meti (by decide) (Nat.le_of_ble_eq_true rfl) ?_
  intro p e s m args below meth c C hr
  refine g_sub [0] rfl ?_
  exact wX6_undo_b0 hN hcp C hr h
def mX6_now_b32 (cp : Nat) (A : gM) (x2 : Int32) : Option (gM × Int32) :=
  some (A, x2)
def mX6_now_b2 (cp : Nat) (K2 : gM → Int32 → Option (gM × Int32)) (A : gM) (x2 : Int32) : Option (gM × Int32) :=
  if g_in x2 cp = true then
  if (A 185 x2.toNatClampNeg) = 4 then
  if g_in x2 cp = true then
  if (A 186 x2.toNatClampNeg) = (-1) then
  mX6_now_b32 cp A x2
  else
  if g_in x2 cp = true then
  g_let (A 186 x2.toNatClampNeg) fun v6 =>
  K2 A v6
  else none
  else none
  else
  mX6_now_b32 cp A x2
  else none
def mX6_now_L2 (cp : Nat) : Nat → gM → Int32 → Option (gM × Int32)
  | 0 => fun _ _ => none
  | f + 1 => mX6_now_b2 cp (mX6_now_L2 cp f)
def mX6_now_b0 (cp : Nat) (A : gM) (x1 : Int32) : Option (gM × Int32) :=
  mX6_now_L2 cp gF A x1
def mX6_now (cp : Nat) (A : gM) (x1 : Int32) : Option (gM × Int32) := mX6_now_b0 cp A x1
set_option maxHeartbeats 2000000 in
set_option maxRecDepth 20000 in
theorem wX6_now_b32 (hN : 193 ≤ N) {cp : Nat} (hcp : g_cap ln cp) {A0 A' : gM} {r : Int32} (C : gC p R s m args meth c cX6_now RX6 3 D g (va_A (gw g ad ln A0 N) s.heap.size) 0) (hr : meth.sig.returnType = some .int)  {A : gM} {x2 : Int32} (h : mX6_now_b32 cp A x2 = some (A', r)) : gJ p l e R s m args below meth c (gEi below D g N ad ln A0 A' r args s) 3 D g (va_A (gw g ad ln A0 N) s.heap.size) N ad ln A [(2, gi x2)] 0 0 32 [] := by
  unfold mX6_now_b32 at h
  refine g_iload_n C 0 dX6_now_32 rfl ?_
  obtain ⟨rfl, rfl⟩ := Prod.mk.inj (Option.some.inj h)
  exact g_reti C hr dX6_now_33

set_option maxHeartbeats 2000000 in
set_option maxRecDepth 20000 in
theorem wX6_now_b2 (hN : 193 ≤ N) {cp : Nat} (hcp : g_cap ln cp) {A0 A' : gM} {r : Int32} (C : gC p R s m args meth c cX6_now RX6 3 D g (va_A (gw g ad ln A0 N) s.heap.size) 0) (hr : meth.sig.returnType = some .int) {K2 : gM → Int32 → Option (gM × Int32)} (hK2 : ∀ {A : gM} {x2 : Int32}, K2 A x2 = some (A', r) → gJ p l e R s m args below meth c (gEi below D g N ad ln A0 A' r args s) 3 D g (va_A (gw g ad ln A0 N) s.heap.size) N ad ln A [(0, gr 183), (2, gi x2)] 0 0 2 []) {A : gM} {x2 : Int32} (h : mX6_now_b2 cp K2 A x2 = some (A', r)) : gJ p l e R s m args below meth c (gEi below D g N ad ln A0 A' r args s) 3 D g (va_A (gw g ad ln A0 N) s.heap.size) N ad ln A [(0, gr 183), (2, gi x2)] 0 0 2 [] := by
  unfold mX6_now_b2 at h
  refine g_aload_n C 0 dX6_now_2 rfl ?_
  refine g_get (v := gr 185) C 183 4 (by omega) rfl rfl gu_6 (by decide) qf_X6_13 rfl dX6_now_3 ?_
  refine g_iload_n C 1 dX6_now_6 rfl ?_
  obtain ⟨hg1, h⟩ := g_gd h
  refine g_iald C 185 (by omega) rfl (show g_ln ln 185 = cp from hcp.1) hg1 dX6_now_7 ?_
  refine g_iconst (v := 4) C dX6_now_8 (by decide) ?_
  refine g_icmp_ne C dX6_now_9 (tgt := 32) (by decide) (fun c2 => ?_) (fun c2 => ?_)
  · have h := g_ff c2 h
    refine g_sub [1] rfl ?_
    exact wX6_now_b32 hN hcp C hr h
  · have h := g_tt c2 h
    refine g_aload_n C 0 dX6_now_12 rfl ?_
    refine g_get (v := gr 186) C 183 5 (by omega) rfl rfl gu_6 (by decide) qf_X6_16 rfl dX6_now_13 ?_
    refine g_iload_n C 1 dX6_now_16 rfl ?_
    obtain ⟨hg3, h⟩ := g_gd h
    refine g_iald C 186 (by omega) rfl (show g_ln ln 186 = cp from hcp.2.1) hg3 dX6_now_17 ?_
    refine g_iconst (v := (-1)) C dX6_now_18 (by decide) ?_
    refine g_icmp_eq C dX6_now_19 (tgt := 32) (by decide) (fun c4 => ?_) (fun c4 => ?_)
    · have h := g_tt c4 h
      refine g_sub [1] rfl ?_
      exact wX6_now_b32 hN hcp C hr h
    · have h := g_ff c4 h
      refine g_aload_n C 0 dX6_now_22 rfl ?_
      refine g_get (v := gr 186) C 183 5 (by omega) rfl rfl gu_6 (by decide) qf_X6_16 rfl dX6_now_23 ?_
      refine g_iload_n C 1 dX6_now_26 rfl ?_
      obtain ⟨hg5, h⟩ := g_gd h
      refine g_iald C 186 (by omega) rfl (show g_ln ln 186 = cp from hcp.2.1) hg5 dX6_now_27 ?_
      obtain ⟨v6, ev6, h⟩ := g_lt h
      refine g_topi ev6 ?_
      refine g_istore_n C dX6_now_28 (by decide) rfl ?_
      refine g_goto C dX6_now_29 (tgt := 2) (by decide) ?_
      refine g_sub [1, 0] rfl ?_
      exact hK2 h

set_option maxHeartbeats 2000000 in
set_option maxRecDepth 20000 in
theorem wX6_now_L2 (hN : 193 ≤ N) {cp : Nat} (hcp : g_cap ln cp) {A0 A' : gM} {r : Int32} (C : gC p R s m args meth c cX6_now RX6 3 D g (va_A (gw g ad ln A0 N) s.heap.size) 0) (hr : meth.sig.returnType = some .int)  : ∀ (f : Nat) {A : gM} {x2 : Int32}, mX6_now_L2 cp f A x2 = some (A', r) → gJ p l e R s m args below meth c (gEi below D g N ad ln A0 A' r args s) 3 D g (va_A (gw g ad ln A0 N) s.heap.size) N ad ln A [(0, gr 183), (2, gi x2)] 0 0 2 []
  | 0, A, x2, h => by cases h
  | f + 1, A, x2, h => wX6_now_b2 hN hcp C hr (fun {A} {x2} h => wX6_now_L2 hN hcp C hr f h) h
set_option maxHeartbeats 2000000 in
set_option maxRecDepth 20000 in
theorem wX6_now_b0 (hN : 193 ≤ N) {cp : Nat} (hcp : g_cap ln cp) {A0 A' : gM} {r : Int32} (C : gC p R s m args meth c cX6_now RX6 3 D g (va_A (gw g ad ln A0 N) s.heap.size) 0) (hr : meth.sig.returnType = some .int)  {A : gM} {x1 : Int32} (h : mX6_now_b0 cp A x1 = some (A', r)) : gJ p l e R s m args below meth c (gEi below D g N ad ln A0 A' r args s) 3 D g (va_A (gw g ad ln A0 N) s.heap.size) N ad ln A [(0, gr 183), (1, gi x1)] 0 0 0 [] := by
  unfold mX6_now_b0 at h
  refine g_iload_n C 1 dX6_now_0 rfl ?_
  refine g_istore_n C dX6_now_1 (by decide) rfl ?_
  refine g_sub [1, 0] rfl ?_
  exact wX6_now_L2 hN hcp C hr gF h

set_option maxHeartbeats 2000000 in
set_option maxRecDepth 20000 in
theorem kX6_now {l : Launch} {D : va_G} {g : gT} {N : Nat} {ad ln : Nat → Nat} (hN : 193 ≤ N) {cp : Nat} (hcp : g_cap ln cp) {A A' : gM} {x1 : Int32} {r : Int32} (h : mX6_now cp A x1 = some (A', r)) : gKi l yX6_now cX6_now 3 (some .int) (0) D g N ad ln A [gr 183, gi x1] A' r := by
  refine g_meti (by decide) (Nat.le_of_ble_eq_true rfl) ?_
  intro p e s m args below meth c C hr
  refine g_sub [0, 1] rfl ?_
  exact wX6_now_b0 hN hcp C hr h
def mX6_isPair_b25 (cp : Nat) (A : gM) (s0 : Int32) : Option (gM × Int32) :=
  if (s0 : Int32) = 0 ∨ (s0 : Int32) = 1 then some (A, s0) else none
def mX6_isPair_b20 (cp : Nat) (A : gM) : Option (gM × Int32) :=
  mX6_isPair_b25 cp A 1
def mX6_isPair_b0 (cp : Nat) (A : gM) (x1 : Int32) : Option (gM × Int32) :=
  if g_in x1 cp = true then
  if (A 185 x1.toNatClampNeg) = 2 then
  mX6_isPair_b20 cp A
  else
  if g_in x1 cp = true then
  if (A 185 x1.toNatClampNeg) = 3 then
  mX6_isPair_b20 cp A
  else
  mX6_isPair_b25 cp A 0
  else none
  else none
def mX6_isPair (cp : Nat) (A : gM) (x1 : Int32) : Option (gM × Int32) := mX6_isPair_b0 cp A x1
set_option maxHeartbeats 2000000 in
set_option maxRecDepth 20000 in
theorem wX6_isPair_b25 (hN : 193 ≤ N) {cp : Nat} (hcp : g_cap ln cp) {A0 A' : gM} {r : Int32} (C : gC p R s m args meth c cX6_isPair RX6 2 D g (va_A (gw g ad ln A0 N) s.heap.size) 0) (hr : meth.sig.returnType = some .boolean)  {A : gM} {s0 : Int32} (h : mX6_isPair_b25 cp A s0 = some (A', r)) : gJ p l e R s m args below meth c (gEi below D g N ad ln A0 A' r args s) 2 D g (va_A (gw g ad ln A0 N) s.heap.size) N ad ln A [] 0 0 25 [gi s0] := by
  unfold mX6_isPair_b25 at h
  obtain ⟨hz1, h⟩ := g_gd h
  obtain ⟨rfl, rfl⟩ := Prod.mk.inj (Option.some.inj h)
  exact g_retz C hr hz1 dX6_isPair_25

set_option maxHeartbeats 2000000 in
set_option maxRecDepth 20000 in
theorem wX6_isPair_b20 (hN : 193 ≤ N) {cp : Nat} (hcp : g_cap ln cp) {A0 A' : gM} {r : Int32} (C : gC p R s m args meth c cX6_isPair RX6 2 D g (va_A (gw g ad ln A0 N) s.heap.size) 0) (hr : meth.sig.returnType = some .boolean)  {A : gM} (h : mX6_isPair_b20 cp A = some (A', r)) : gJ p l e R s m args below meth c (gEi below D g N ad ln A0 A' r args s) 2 D g (va_A (gw g ad ln A0 N) s.heap.size) N ad ln A [] 0 0 20 [] := by
  unfold mX6_isPair_b20 at h
  refine g_iconst (v := 1) C dX6_isPair_20 (by decide) ?_
  refine g_goto C dX6_isPair_21 (tgt := 25) (by decide) ?_
  refine g_sub [] rfl ?_
  exact wX6_isPair_b25 hN hcp C hr h

set_option maxHeartbeats 2000000 in
set_option maxRecDepth 20000 in
theorem wX6_isPair_b0 (hN : 193 ≤ N) {cp : Nat} (hcp : g_cap ln cp) {A0 A' : gM} {r : Int32} (C : gC p R s m args meth c cX6_isPair RX6 2 D g (va_A (gw g ad ln A0 N) s.heap.size) 0) (hr : meth.sig.returnType = some .boolean)  {A : gM} {x1 : Int32} (h : mX6_isPair_b0 cp A x1 = some (A', r)) : gJ p l e R s m args below meth c (gEi below D g N ad ln A0 A' r args s) 2 D g (va_A (gw g ad ln A0 N) s.heap.size) N ad ln A [(0, gr 183), (1, gi x1)] 0 0 0 [] := by
  unfold mX6_isPair_b0 at h
  refine g_aload_n C 0 dX6_isPair_0 rfl ?_
  refine g_get (v := gr 185) C 183 4 (by omega) rfl rfl gu_6 (by decide) qf_X6_13 rfl dX6_isPair_1 ?_
  refine g_iload_n C 1 dX6_isPair_4 rfl ?_
  obtain ⟨hg1, h⟩ := g_gd h
  refine g_iald C 185 (by omega) rfl (show g_ln ln 185 = cp from hcp.1) hg1 dX6_isPair_5 ?_
  refine g_iconst (v := 2) C dX6_isPair_6 (by decide) ?_
  refine g_icmp_eq C dX6_isPair_7 (tgt := 20) (by decide) (fun c2 => ?_) (fun c2 => ?_)
  · have h := g_tt c2 h
    refine g_sub [] rfl ?_
    exact wX6_isPair_b20 hN hcp C hr h
  · have h := g_ff c2 h
    refine g_aload_n C 0 dX6_isPair_10 rfl ?_
    refine g_get (v := gr 185) C 183 4 (by omega) rfl rfl gu_6 (by decide) qf_X6_13 rfl dX6_isPair_11 ?_
    refine g_iload_n C 1 dX6_isPair_14 rfl ?_
    obtain ⟨hg3, h⟩ := g_gd h
    refine g_iald C 185 (by omega) rfl (show g_ln ln 185 = cp from hcp.1) hg3 dX6_isPair_15 ?_
    refine g_iconst (v := 3) C dX6_isPair_16 (by decide) ?_
    refine g_icmp_ne C dX6_isPair_17 (tgt := 24) (by decide) (fun c4 => ?_) (fun c4 => ?_)
    · have h := g_ff c4 h
      refine g_iconst (v := 0) C dX6_isPair_24 (by decide) ?_
      refine g_sub [] rfl ?_
      exact wX6_isPair_b25 hN hcp C hr h
    · have h := g_tt c4 h
      refine g_sub [] rfl ?_
      exact wX6_isPair_b20 hN hcp C hr h

set_option maxHeartbeats 2000000 in
set_option maxRecDepth 20000 in
theorem kX6_isPair {l : Launch} {D : va_G} {g : gT} {N : Nat} {ad ln : Nat → Nat} (hN : 193 ≤ N) {cp : Nat} (hcp : g_cap ln cp) {A A' : gM} {x1 : Int32} {r : Int32} (h : mX6_isPair cp A x1 = some (A', r)) : gKi l yX6_isPair cX6_isPair 2 (some .boolean) (0) D g N ad ln A [gr 183, gi x1] A' r := by
  refine g_meti (by decide) (Nat.le_of_ble_eq_true rfl) ?_
  intro p e s m args below meth c C hr
  refine g_sub [0, 1] rfl ?_
  exact wX6_isPair_b0 hN hcp C hr h
def mX6_failed_b0 (cp : Nat) (A : gM) (x1 : Int32) (x2 : Int32) : Option (gM × Int32) :=
  g_let (g_up A 183 12 x1) fun A1 =>
  g_let (g_up A1 183 13 x2) fun A2 =>
  some (A2, (-1))
def mX6_failed (cp : Nat) (A : gM) (x1 : Int32) (x2 : Int32) : Option (gM × Int32) := mX6_failed_b0 cp A x1 x2
set_option maxHeartbeats 2000000 in
set_option maxRecDepth 20000 in
theorem wX6_failed_b0 (hN : 193 ≤ N) {cp : Nat} (hcp : g_cap ln cp) {A0 A' : gM} {r : Int32} (C : gC p R s m args meth c cX6_failed RX6 3 D g (va_A (gw g ad ln A0 N) s.heap.size) 0) (hr : meth.sig.returnType = some .int)  {A : gM} {x1 : Int32} {x2 : Int32} (h : mX6_failed_b0 cp A x1 x2 = some (A', r)) : gJ p l e R s m args below meth c (gEi below D g N ad ln A0 A' r args s) 3 D g (va_A (gw g ad ln A0 N) s.heap.size) N ad ln A [(0, gr 183), (1, gi x1), (2, gi x2)] 0 0 0 [] := by
  unfold mX6_failed_b0 at h
  refine g_aload_n C 0 dX6_failed_0 rfl ?_
  refine g_iload_n C 1 dX6_failed_1 rfl ?_
  obtain ⟨A1, eA1, h⟩ := g_lt h
  refine g_put C 183 12 tyX6 tyX6_ok nmX6 (by omega) rfl rfl gu_6 (by decide) qf_X6_99 rfl (by decide +kernel) (Nat.le_of_ble_eq_true rfl) rfl eA1 dX6_failed_2 ?_
  refine g_aload_n C 0 dX6_failed_5 rfl ?_
  refine g_iload_n C 2 dX6_failed_6 rfl ?_
  obtain ⟨A2, eA2, h⟩ := g_lt h
  refine g_put C 183 13 tyX6 tyX6_ok nmX6 (by omega) rfl rfl gu_6 (by decide) qf_X6_102 rfl (by decide +kernel) (Nat.le_of_ble_eq_true rfl) rfl eA2 dX6_failed_7 ?_
  refine g_iconst (v := (-1)) C dX6_failed_10 (by decide) ?_
  obtain ⟨rfl, rfl⟩ := Prod.mk.inj (Option.some.inj h)
  exact g_reti C hr dX6_failed_11

set_option maxHeartbeats 2000000 in
set_option maxRecDepth 20000 in
theorem kX6_failed {l : Launch} {D : va_G} {g : gT} {N : Nat} {ad ln : Nat → Nat} (hN : 193 ≤ N) {cp : Nat} (hcp : g_cap ln cp) {A A' : gM} {x1 : Int32} {x2 : Int32} {r : Int32} (h : mX6_failed cp A x1 x2 = some (A', r)) : gKi l yX6_failed cX6_failed 3 (some .int) (0) D g N ad ln A [gr 183, gi x1, gi x2] A' r := by
  refine g_meti (by decide) (Nat.le_of_ble_eq_true rfl) ?_
  intro p e s m args below meth c C hr
  refine g_sub [0, 1, 2] rfl ?_
  exact wX6_failed_b0 hN hcp C hr h
def mX6_has_b52 (cp : Nat) (rec : gM → Int32 → Int32 → Option (gM × Int32)) (A : gM) (s0 : Int32) : Option (gM × Int32) :=
  if (s0 : Int32) = 0 ∨ (s0 : Int32) = 1 then some (A, s0) else none
def mX6_has_b47 (cp : Nat) (rec : gM → Int32 → Int32 → Option (gM × Int32)) (A : gM) : Option (gM × Int32) :=
  mX6_has_b52 cp rec A 1
def mX6_has_b51 (cp : Nat) (rec : gM → Int32 → Int32 → Option (gM × Int32)) (A : gM) : Option (gM × Int32) :=
  mX6_has_b52 cp rec A 0
def mX6_has_b0 (cp : Nat) (rec : gM → Int32 → Int32 → Option (gM × Int32)) (A : gM) (x1 : Int32) (x2 : Int32) : Option (gM × Int32) :=
  (mX6_now cp A x1).bind fun q1 =>
  if q1.2 = x2 then
  mX6_has_b47 cp rec q1.1
  else
  (mX6_isPair cp q1.1 q1.2).bind fun q3 =>
  if q3.2 = 0 then
  mX6_has_b51 cp rec q3.1
  else
  if g_in q1.2 cp = true then
  (rec q3.1 (q3.1 186 q1.2.toNatClampNeg) x2).bind fun q6 =>
  if q6.2 = 0 then
  if g_in q1.2 cp = true then
  (rec q6.1 (q6.1 187 q1.2.toNatClampNeg) x2).bind fun q9 =>
  if q9.2 = 0 then
  mX6_has_b51 cp rec q9.1
  else
  mX6_has_b47 cp rec q9.1
  else none
  else
  mX6_has_b47 cp rec q6.1
  else none
def mX6_has_body (cp : Nat) (rec : gM → Int32 → Int32 → Option (gM × Int32)) (A : gM) (x1 : Int32) (x2 : Int32) : Option (gM × Int32) := mX6_has_b0 cp rec A x1 x2
def mX6_has (cp : Nat) : Nat → gM → Int32 → Int32 → Option (gM × Int32)
  | 0 => fun _ _ _ => none
  | f + 1 => mX6_has_body cp (mX6_has cp f)
set_option maxHeartbeats 2000000 in
set_option maxRecDepth 20000 in
theorem wX6_has_b52 (hN : 193 ≤ N) {cp : Nat} (hcp : g_cap ln cp) {rec : gM → Int32 → Int32 → Option (gM × Int32)} {fu : Nat} (hrec : ∀ {A A' : gM} {x1 : Int32} {x2 : Int32} {r : Int32}, rec A x1 x2 = some (A', r) → gKi l yX6_has cX6_has 4 (some .boolean) (3 + 1 * fu) D g N ad ln A [gr 183, gi x1, gi x2] A' r) {A0 A' : gM} {r : Int32} (C : gC p R s m args meth c cX6_has RX6 4 D g (va_A (gw g ad ln A0 N) s.heap.size) (3 + 1 * fu + 1)) (hr : meth.sig.returnType = some .boolean)  {A : gM} {s0 : Int32} (h : mX6_has_b52 cp rec A s0 = some (A', r)) : gJ p l e R s m args below meth c (gEi below D g N ad ln A0 A' r args s) 4 D g (va_A (gw g ad ln A0 N) s.heap.size) N ad ln A [] 0 0 52 [gi s0] := by
  unfold mX6_has_b52 at h
  obtain ⟨hz1, h⟩ := g_gd h
  obtain ⟨rfl, rfl⟩ := Prod.mk.inj (Option.some.inj h)
  exact g_retz C hr hz1 dX6_has_52

set_option maxHeartbeats 2000000 in
set_option maxRecDepth 20000 in
theorem wX6_has_b47 (hN : 193 ≤ N) {cp : Nat} (hcp : g_cap ln cp) {rec : gM → Int32 → Int32 → Option (gM × Int32)} {fu : Nat} (hrec : ∀ {A A' : gM} {x1 : Int32} {x2 : Int32} {r : Int32}, rec A x1 x2 = some (A', r) → gKi l yX6_has cX6_has 4 (some .boolean) (3 + 1 * fu) D g N ad ln A [gr 183, gi x1, gi x2] A' r) {A0 A' : gM} {r : Int32} (C : gC p R s m args meth c cX6_has RX6 4 D g (va_A (gw g ad ln A0 N) s.heap.size) (3 + 1 * fu + 1)) (hr : meth.sig.returnType = some .boolean)  {A : gM} (h : mX6_has_b47 cp rec A = some (A', r)) : gJ p l e R s m args below meth c (gEi below D g N ad ln A0 A' r args s) 4 D g (va_A (gw g ad ln A0 N) s.heap.size) N ad ln A [] 0 0 47 [] := by
  unfold mX6_has_b47 at h
  refine g_iconst (v := 1) C dX6_has_47 (by decide) ?_
  refine g_goto C dX6_has_48 (tgt := 52) (by decide) ?_
  refine g_sub [] rfl ?_
  exact wX6_has_b52 hN hcp hrec C hr h

set_option maxHeartbeats 2000000 in
set_option maxRecDepth 20000 in
theorem wX6_has_b51 (hN : 193 ≤ N) {cp : Nat} (hcp : g_cap ln cp) {rec : gM → Int32 → Int32 → Option (gM × Int32)} {fu : Nat} (hrec : ∀ {A A' : gM} {x1 : Int32} {x2 : Int32} {r : Int32}, rec A x1 x2 = some (A', r) → gKi l yX6_has cX6_has 4 (some .boolean) (3 + 1 * fu) D g N ad ln A [gr 183, gi x1, gi x2] A' r) {A0 A' : gM} {r : Int32} (C : gC p R s m args meth c cX6_has RX6 4 D g (va_A (gw g ad ln A0 N) s.heap.size) (3 + 1 * fu + 1)) (hr : meth.sig.returnType = some .boolean)  {A : gM} (h : mX6_has_b51 cp rec A = some (A', r)) : gJ p l e R s m args below meth c (gEi below D g N ad ln A0 A' r args s) 4 D g (va_A (gw g ad ln A0 N) s.heap.size) N ad ln A [] 0 0 51 [] := by
  unfold mX6_has_b51 at h
  refine g_iconst (v := 0) C dX6_has_51 (by decide) ?_
  refine g_sub [] rfl ?_
  exact wX6_has_b52 hN hcp hrec C hr h

set_option maxHeartbeats 2000000 in
set_option maxRecDepth 20000 in
theorem wX6_has_b0 (hN : 193 ≤ N) {cp : Nat} (hcp : g_cap ln cp) {rec : gM → Int32 → Int32 → Option (gM × Int32)} {fu : Nat} (hrec : ∀ {A A' : gM} {x1 : Int32} {x2 : Int32} {r : Int32}, rec A x1 x2 = some (A', r) → gKi l yX6_has cX6_has 4 (some .boolean) (3 + 1 * fu) D g N ad ln A [gr 183, gi x1, gi x2] A' r) {A0 A' : gM} {r : Int32} (C : gC p R s m args meth c cX6_has RX6 4 D g (va_A (gw g ad ln A0 N) s.heap.size) (3 + 1 * fu + 1)) (hr : meth.sig.returnType = some .boolean)  {A : gM} {x1 : Int32} {x2 : Int32} (h : mX6_has_b0 cp rec A x1 x2 = some (A', r)) : gJ p l e R s m args below meth c (gEi below D g N ad ln A0 A' r args s) 4 D g (va_A (gw g ad ln A0 N) s.heap.size) N ad ln A [(0, gr 183), (1, gi x1), (2, gi x2)] 0 0 0 [] := by
  unfold mX6_has_b0 at h
  refine g_aload_n C 0 dX6_has_0 rfl ?_
  refine g_iload_n C 1 dX6_has_1 rfl ?_
  obtain ⟨q1, eq1, h⟩ := g_bd h
  refine g_calliV C 183 [gi x1] (kX6_now hN hcp eq1) qs_X6_89 (by omega) (by omega) rfl rfl rfl rfl (Nat.le_of_ble_eq_true rfl) ⟨Nat.zero_le _, Nat.zero_le _⟩ dX6_has_2 ?_
  refine g_istore_n C dX6_has_5 (by decide) rfl ?_
  refine g_iload_n C 0 dX6_has_6 rfl ?_
  refine g_iload_n C 3 dX6_has_7 rfl ?_
  refine g_icmp_eq C dX6_has_8 (tgt := 47) (by decide) (fun c2 => ?_) (fun c2 => ?_)
  · have h := g_tt c2 h
    refine g_sub [] rfl ?_
    exact wX6_has_b47 hN hcp hrec C hr h
  · have h := g_ff c2 h
    refine g_aload_n C 1 dX6_has_11 rfl ?_
    refine g_iload_n C 0 dX6_has_12 rfl ?_
    obtain ⟨q3, eq3, h⟩ := g_bd h
    refine g_calliV C 183 [gi q1.2] (kX6_isPair hN hcp eq3) qs_X6_92 (by omega) (by omega) rfl rfl rfl rfl (Nat.le_of_ble_eq_true rfl) ⟨Nat.zero_le _, Nat.zero_le _⟩ dX6_has_13 ?_
    refine g_if_eq C dX6_has_16 (tgt := 51) (by decide) (fun c4 => ?_) (fun c4 => ?_)
    · have h := g_tt c4 h
      refine g_sub [] rfl ?_
      exact wX6_has_b51 hN hcp hrec C hr h
    · have h := g_ff c4 h
      refine g_aload_n C 1 dX6_has_19 rfl ?_
      refine g_aload_n C 1 dX6_has_20 rfl ?_
      refine g_get (v := gr 186) C 183 5 (by omega) rfl rfl gu_6 (by decide) qf_X6_16 rfl dX6_has_21 ?_
      refine g_iload_n C 0 dX6_has_24 rfl ?_
      obtain ⟨hg5, h⟩ := g_gd h
      refine g_iald C 186 (by omega) rfl (show g_ln ln 186 = cp from hcp.2.1) hg5 dX6_has_25 ?_
      refine g_iload_n C 3 dX6_has_26 rfl ?_
      obtain ⟨q6, eq6, h⟩ := g_bd h
      refine g_calliV C 183 [gi (q3.1 186 q1.2.toNatClampNeg), gi x2] (hrec eq6) qs_X6_95 (by omega) (by omega) rfl rfl rfl rfl (Nat.le_of_ble_eq_true rfl) ⟨Nat.zero_le _, Nat.zero_le _⟩ dX6_has_27 ?_
      refine g_if_ne C dX6_has_30 (tgt := 47) (by decide) (fun c7 => ?_) (fun c7 => ?_)
      · have h := g_ff c7 h
        refine g_sub [] rfl ?_
        exact wX6_has_b47 hN hcp hrec C hr h
      · have h := g_tt c7 h
        refine g_aload_n C 1 dX6_has_33 rfl ?_
        refine g_aload_n C 1 dX6_has_34 rfl ?_
        refine g_get (v := gr 187) C 183 6 (by omega) rfl rfl gu_6 (by decide) qf_X6_19 rfl dX6_has_35 ?_
        refine g_iload_n C 0 dX6_has_38 rfl ?_
        obtain ⟨hg8, h⟩ := g_gd h
        refine g_iald C 187 (by omega) rfl (show g_ln ln 187 = cp from hcp.2.2.1) hg8 dX6_has_39 ?_
        refine g_iload_n C 3 dX6_has_40 rfl ?_
        obtain ⟨q9, eq9, h⟩ := g_bd h
        refine g_calliV C 183 [gi (q6.1 187 q1.2.toNatClampNeg), gi x2] (hrec eq9) qs_X6_95 (by omega) (by omega) rfl rfl rfl rfl (Nat.le_of_ble_eq_true rfl) ⟨Nat.zero_le _, Nat.zero_le _⟩ dX6_has_41 ?_
        refine g_if_eq C dX6_has_44 (tgt := 51) (by decide) (fun c10 => ?_) (fun c10 => ?_)
        · have h := g_tt c10 h
          refine g_sub [] rfl ?_
          exact wX6_has_b51 hN hcp hrec C hr h
        · have h := g_ff c10 h
          refine g_sub [] rfl ?_
          exact wX6_has_b47 hN hcp hrec C hr h

set_option maxHeartbeats 2000000 in
set_option maxRecDepth 20000 in
theorem kX6_has_body {l : Launch} {D : va_G} {g : gT} {N : Nat} {ad ln : Nat → Nat} (hN : 193 ≤ N) {cp : Nat} (hcp : g_cap ln cp) {rec : gM → Int32 → Int32 → Option (gM × Int32)} {fu : Nat} (hrec : ∀ {A A' : gM} {x1 : Int32} {x2 : Int32} {r : Int32}, rec A x1 x2 = some (A', r) → gKi l yX6_has cX6_has 4 (some .boolean) (3 + 1 * fu) D g N ad ln A [gr 183, gi x1, gi x2] A' r) {A A' : gM} {x1 : Int32} {x2 : Int32} {r : Int32} (h : mX6_has_body cp rec A x1 x2 = some (A', r)) : gKi l yX6_has cX6_has 4 (some .boolean) ((3 + 1 * fu + 1)) D g N ad ln A [gr 183, gi x1, gi x2] A' r := by
  refine g_meti (by decide) (Nat.le_of_ble_eq_true rfl) ?_
  intro p e s m args below meth c C hr
  refine g_sub [0, 1, 2] rfl ?_
  exact wX6_has_b0 hN hcp hrec C hr h
set_option maxHeartbeats 2000000 in
set_option maxRecDepth 20000 in
theorem kX6_has {l : Launch} {D : va_G} {g : gT} {N : Nat} {ad ln : Nat → Nat} (hN : 193 ≤ N) {cp : Nat} (hcp : g_cap ln cp) : ∀ (f : Nat) {A A' : gM} {x1 : Int32} {x2 : Int32} {r : Int32}, mX6_has cp f A x1 x2 = some (A', r) → gKi l yX6_has cX6_has 4 (some .boolean) (3 + 1 * f) D g N ad ln A [gr 183, gi x1, gi x2] A' r
  | 0, A, A', x1, x2, r, h => by cases h
  | f + 1, A, A', x1, x2, r, h => kX6_has_body hN hcp (fun h => kX6_has hN hcp f h) h
def mX6_codes_b56 (cp : Nat) (rec : gM → Int32 → Option (gM × Int32)) (A : gM) (s0 : Int32) : Option (gM × Int32) :=
  some (A, s0)
def mX6_codes_b0 (cp : Nat) (rec : gM → Int32 → Option (gM × Int32)) (A : gM) (x1 : Int32) : Option (gM × Int32) :=
  (mX6_now cp A x1).bind fun q1 =>
  (mX6_isPair cp q1.1 q1.2).bind fun q2 =>
  if q2.2 = 0 then
  some (q2.1, 1)
  else
  if g_in q1.2 cp = true then
  (rec q2.1 (q2.1 186 q1.2.toNatClampNeg)).bind fun q5 =>
  if q5.2 ≤ 60 then
  if g_in q1.2 cp = true then
  (rec q5.1 (q5.1 187 q1.2.toNatClampNeg)).bind fun q8 =>
  mX6_codes_b56 cp rec q8.1 (if ((1 + q5.2) + q8.2) < 61 then ((1 + q5.2) + q8.2) else 61)
  else none
  else
  mX6_codes_b56 cp rec q5.1 q5.2
  else none
def mX6_codes_body (cp : Nat) (rec : gM → Int32 → Option (gM × Int32)) (A : gM) (x1 : Int32) : Option (gM × Int32) := mX6_codes_b0 cp rec A x1
def mX6_codes (cp : Nat) : Nat → gM → Int32 → Option (gM × Int32)
  | 0 => fun _ _ => none
  | f + 1 => mX6_codes_body cp (mX6_codes cp f)
set_option maxHeartbeats 2000000 in
set_option maxRecDepth 20000 in
theorem wX6_codes_b56 (hN : 193 ≤ N) {cp : Nat} (hcp : g_cap ln cp) {rec : gM → Int32 → Option (gM × Int32)} {fu : Nat} (hrec : ∀ {A A' : gM} {x1 : Int32} {r : Int32}, rec A x1 = some (A', r) → gKi l yX6_codes cX6_codes 4 (some .int) (3 + 1 * fu) D g N ad ln A [gr 183, gi x1] A' r) {A0 A' : gM} {r : Int32} (C : gC p R s m args meth c cX6_codes RX6 4 D g (va_A (gw g ad ln A0 N) s.heap.size) (3 + 1 * fu + 1)) (hr : meth.sig.returnType = some .int)  {A : gM} {s0 : Int32} (h : mX6_codes_b56 cp rec A s0 = some (A', r)) : gJ p l e R s m args below meth c (gEi below D g N ad ln A0 A' r args s) 4 D g (va_A (gw g ad ln A0 N) s.heap.size) N ad ln A [] 0 0 56 [gi s0] := by
  unfold mX6_codes_b56 at h
  obtain ⟨rfl, rfl⟩ := Prod.mk.inj (Option.some.inj h)
  exact g_reti C hr dX6_codes_56

set_option maxHeartbeats 2000000 in
set_option maxRecDepth 20000 in
theorem wX6_codes_b0 (hN : 193 ≤ N) {cp : Nat} (hcp : g_cap ln cp) {rec : gM → Int32 → Option (gM × Int32)} {fu : Nat} (hrec : ∀ {A A' : gM} {x1 : Int32} {r : Int32}, rec A x1 = some (A', r) → gKi l yX6_codes cX6_codes 4 (some .int) (3 + 1 * fu) D g N ad ln A [gr 183, gi x1] A' r) {A0 A' : gM} {r : Int32} (C : gC p R s m args meth c cX6_codes RX6 4 D g (va_A (gw g ad ln A0 N) s.heap.size) (3 + 1 * fu + 1)) (hr : meth.sig.returnType = some .int)  {A : gM} {x1 : Int32} (h : mX6_codes_b0 cp rec A x1 = some (A', r)) : gJ p l e R s m args below meth c (gEi below D g N ad ln A0 A' r args s) 4 D g (va_A (gw g ad ln A0 N) s.heap.size) N ad ln A [(0, gr 183), (1, gi x1)] 0 0 0 [] := by
  unfold mX6_codes_b0 at h
  refine g_aload_n C 0 dX6_codes_0 rfl ?_
  refine g_iload_n C 1 dX6_codes_1 rfl ?_
  obtain ⟨q1, eq1, h⟩ := g_bd h
  refine g_calliV C 183 [gi x1] (kX6_now hN hcp eq1) qs_X6_89 (by omega) (by omega) rfl rfl rfl rfl (Nat.le_of_ble_eq_true rfl) ⟨Nat.zero_le _, Nat.zero_le _⟩ dX6_codes_2 ?_
  refine g_istore_n C dX6_codes_5 (by decide) rfl ?_
  refine g_aload_n C 1 dX6_codes_6 rfl ?_
  refine g_iload_n C 0 dX6_codes_7 rfl ?_
  obtain ⟨q2, eq2, h⟩ := g_bd h
  refine g_calliV C 183 [gi q1.2] (kX6_isPair hN hcp eq2) qs_X6_92 (by omega) (by omega) rfl rfl rfl rfl (Nat.le_of_ble_eq_true rfl) ⟨Nat.zero_le _, Nat.zero_le _⟩ dX6_codes_8 ?_
  refine g_if_ne C dX6_codes_11 (tgt := 16) (by decide) (fun c3 => ?_) (fun c3 => ?_)
  · have h := g_ff c3 h
    refine g_aload_n C 1 dX6_codes_16 rfl ?_
    refine g_aload_n C 1 dX6_codes_17 rfl ?_
    refine g_get (v := gr 186) C 183 5 (by omega) rfl rfl gu_6 (by decide) qf_X6_16 rfl dX6_codes_18 ?_
    refine g_iload_n C 0 dX6_codes_21 rfl ?_
    obtain ⟨hg4, h⟩ := g_gd h
    refine g_iald C 186 (by omega) rfl (show g_ln ln 186 = cp from hcp.2.1) hg4 dX6_codes_22 ?_
    obtain ⟨q5, eq5, h⟩ := g_bd h
    refine g_calliV C 183 [gi (q2.1 186 q1.2.toNatClampNeg)] (hrec eq5) qs_X6_111 (by omega) (by omega) rfl rfl rfl rfl (Nat.le_of_ble_eq_true rfl) ⟨Nat.zero_le _, Nat.zero_le _⟩ dX6_codes_23 ?_
    refine g_istore_n C dX6_codes_26 (by decide) rfl ?_
    refine g_iload_n C 0 dX6_codes_27 rfl ?_
    refine g_bipush (v := 60) C dX6_codes_28 (by decide) ?_
    refine g_icmp_le C dX6_codes_30 (tgt := 37) (by decide) (fun c6 => ?_) (fun c6 => ?_)
    · have h := g_tt c6 h
      refine g_bipush (v := 61) C dX6_codes_37 (by decide) ?_
      refine g_iconst (v := 1) C dX6_codes_39 (by decide) ?_
      refine g_iload_n C 0 dX6_codes_40 rfl ?_
      refine g_iadd C dX6_codes_41 ?_
      refine g_aload_n C 2 dX6_codes_42 rfl ?_
      refine g_aload_n C 2 dX6_codes_43 rfl ?_
      refine g_get (v := gr 187) C 183 6 (by omega) rfl rfl gu_6 (by decide) qf_X6_19 rfl dX6_codes_44 ?_
      refine g_iload_n C 1 dX6_codes_47 rfl ?_
      obtain ⟨hg7, h⟩ := g_gd h
      refine g_iald C 187 (by omega) rfl (show g_ln ln 187 = cp from hcp.2.2.1) hg7 dX6_codes_48 ?_
      obtain ⟨q8, eq8, h⟩ := g_bd h
      refine g_calliV C 183 [gi (q5.1 187 q1.2.toNatClampNeg)] (hrec eq8) qs_X6_111 (by omega) (by omega) rfl rfl rfl rfl (Nat.le_of_ble_eq_true rfl) ⟨Nat.zero_le _, Nat.zero_le _⟩ dX6_codes_49 ?_
      refine g_iadd C dX6_codes_52 ?_
      refine g_mmin C qm_X6_114 (by omega) (Nat.le_of_ble_eq_true rfl) ⟨Nat.zero_le _, Nat.zero_le _⟩ dX6_codes_53 ?_
      refine g_sub [] rfl ?_
      exact wX6_codes_b56 hN hcp hrec C hr h
    · have h := g_ff c6 h
      refine g_iload_n C 0 dX6_codes_33 rfl ?_
      refine g_goto C dX6_codes_34 (tgt := 56) (by decide) ?_
      refine g_sub [] rfl ?_
      exact wX6_codes_b56 hN hcp hrec C hr h
  · have h := g_tt c3 h
    refine g_iconst (v := 1) C dX6_codes_14 (by decide) ?_
    obtain ⟨rfl, rfl⟩ := Prod.mk.inj (Option.some.inj h)
    exact g_reti C hr dX6_codes_15

set_option maxHeartbeats 2000000 in
set_option maxRecDepth 20000 in
theorem kX6_codes_body {l : Launch} {D : va_G} {g : gT} {N : Nat} {ad ln : Nat → Nat} (hN : 193 ≤ N) {cp : Nat} (hcp : g_cap ln cp) {rec : gM → Int32 → Option (gM × Int32)} {fu : Nat} (hrec : ∀ {A A' : gM} {x1 : Int32} {r : Int32}, rec A x1 = some (A', r) → gKi l yX6_codes cX6_codes 4 (some .int) (3 + 1 * fu) D g N ad ln A [gr 183, gi x1] A' r) {A A' : gM} {x1 : Int32} {r : Int32} (h : mX6_codes_body cp rec A x1 = some (A', r)) : gKi l yX6_codes cX6_codes 4 (some .int) ((3 + 1 * fu + 1)) D g N ad ln A [gr 183, gi x1] A' r := by
  refine g_meti (by decide) (Nat.le_of_ble_eq_true rfl) ?_
  intro p e s m args below meth c C hr
  refine g_sub [0, 1] rfl ?_
  exact wX6_codes_b0 hN hcp hrec C hr h
set_option maxHeartbeats 2000000 in
set_option maxRecDepth 20000 in
theorem kX6_codes {l : Launch} {D : va_G} {g : gT} {N : Nat} {ad ln : Nat → Nat} (hN : 193 ≤ N) {cp : Nat} (hcp : g_cap ln cp) : ∀ (f : Nat) {A A' : gM} {x1 : Int32} {r : Int32}, mX6_codes cp f A x1 = some (A', r) → gKi l yX6_codes cX6_codes 4 (some .int) (3 + 1 * f) D g N ad ln A [gr 183, gi x1] A' r
  | 0, A, A', x1, r, h => by cases h
  | f + 1, A, A', x1, r, h => kX6_codes_body hN hcp (fun h => kX6_codes hN hcp f h) h
def mX6_hasOwn_b72 (cp : Nat) (rec : gM → Int32 → Option (gM × Int32)) (A : gM) (s0 : Int32) : Option (gM × Int32) :=
  if (s0 : Int32) = 0 ∨ (s0 : Int32) = 1 then some (A, s0) else none
def mX6_hasOwn_b71 (cp : Nat) (rec : gM → Int32 → Option (gM × Int32)) (A : gM) : Option (gM × Int32) :=
  mX6_hasOwn_b72 cp rec A 0
def mX6_hasOwn_b40 (cp : Nat) (rec : gM → Int32 → Option (gM × Int32)) (A : gM) : Option (gM × Int32) :=
  mX6_hasOwn_b72 cp rec A 1
def mX6_hasOwn_b0 (cp : Nat) (rec : gM → Int32 → Option (gM × Int32)) (A : gM) (x1 : Int32) : Option (gM × Int32) :=
  (mX6_now cp A x1).bind fun q1 =>
  (mX6_isPair cp q1.1 q1.2).bind fun q2 =>
  if q2.2 = 0 then
  if g_in q1.2 cp = true then
  if (q2.1 185 q1.2.toNatClampNeg) = 4 then
  if g_in q1.2 cp = true then
  if (q2.1 188 q1.2.toNatClampNeg) = 0 then
  mX6_hasOwn_b71 cp rec q2.1
  else
  mX6_hasOwn_b72 cp rec q2.1 1
  else none
  else
  mX6_hasOwn_b71 cp rec q2.1
  else none
  else
  if g_in q1.2 cp = true then
  (rec q2.1 (q2.1 186 q1.2.toNatClampNeg)).bind fun q9 =>
  if q9.2 = 0 then
  if g_in q1.2 cp = true then
  (rec q9.1 (q9.1 187 q1.2.toNatClampNeg)).bind fun q12 =>
  if q12.2 = 0 then
  mX6_hasOwn_b72 cp rec q12.1 0
  else
  mX6_hasOwn_b40 cp rec q12.1
  else none
  else
  mX6_hasOwn_b40 cp rec q9.1
  else none
def mX6_hasOwn_body (cp : Nat) (rec : gM → Int32 → Option (gM × Int32)) (A : gM) (x1 : Int32) : Option (gM × Int32) := mX6_hasOwn_b0 cp rec A x1
def mX6_hasOwn (cp : Nat) : Nat → gM → Int32 → Option (gM × Int32)
  | 0 => fun _ _ => none
  | f + 1 => mX6_hasOwn_body cp (mX6_hasOwn cp f)
set_option maxHeartbeats 2000000 in
set_option maxRecDepth 20000 in
theorem wX6_hasOwn_b72 (hN : 193 ≤ N) {cp : Nat} (hcp : g_cap ln cp) {rec : gM → Int32 → Option (gM × Int32)} {fu : Nat} (hrec : ∀ {A A' : gM} {x1 : Int32} {r : Int32}, rec A x1 = some (A', r) → gKi l yX6_hasOwn cX6_hasOwn 3 (some .boolean) (3 + 1 * fu) D g N ad ln A [gr 183, gi x1] A' r) {A0 A' : gM} {r : Int32} (C : gC p R s m args meth c cX6_hasOwn RX6 3 D g (va_A (gw g ad ln A0 N) s.heap.size) (3 + 1 * fu + 1)) (hr : meth.sig.returnType = some .boolean)  {A : gM} {s0 : Int32} (h : mX6_hasOwn_b72 cp rec A s0 = some (A', r)) : gJ p l e R s m args below meth c (gEi below D g N ad ln A0 A' r args s) 3 D g (va_A (gw g ad ln A0 N) s.heap.size) N ad ln A [] 0 0 72 [gi s0] := by
  unfold mX6_hasOwn_b72 at h
  obtain ⟨hz1, h⟩ := g_gd h
  obtain ⟨rfl, rfl⟩ := Prod.mk.inj (Option.some.inj h)
  exact g_retz C hr hz1 dX6_hasOwn_72

set_option maxHeartbeats 2000000 in
set_option maxRecDepth 20000 in
theorem wX6_hasOwn_b71 (hN : 193 ≤ N) {cp : Nat} (hcp : g_cap ln cp) {rec : gM → Int32 → Option (gM × Int32)} {fu : Nat} (hrec : ∀ {A A' : gM} {x1 : Int32} {r : Int32}, rec A x1 = some (A', r) → gKi l yX6_hasOwn cX6_hasOwn 3 (some .boolean) (3 + 1 * fu) D g N ad ln A [gr 183, gi x1] A' r) {A0 A' : gM} {r : Int32} (C : gC p R s m args meth c cX6_hasOwn RX6 3 D g (va_A (gw g ad ln A0 N) s.heap.size) (3 + 1 * fu + 1)) (hr : meth.sig.returnType = some .boolean)  {A : gM} (h : mX6_hasOwn_b71 cp rec A = some (A', r)) : gJ p l e R s m args below meth c (gEi below D g N ad ln A0 A' r args s) 3 D g (va_A (gw g ad ln A0 N) s.heap.size) N ad ln A [] 0 0 71 [] := by
  unfold mX6_hasOwn_b71 at h
  refine g_iconst (v := 0) C dX6_hasOwn_71 (by decide) ?_
  refine g_sub [] rfl ?_
  exact wX6_hasOwn_b72 hN hcp hrec C hr h

set_option maxHeartbeats 2000000 in
set_option maxRecDepth 20000 in
theorem wX6_hasOwn_b40 (hN : 193 ≤ N) {cp : Nat} (hcp : g_cap ln cp) {rec : gM → Int32 → Option (gM × Int32)} {fu : Nat} (hrec : ∀ {A A' : gM} {x1 : Int32} {r : Int32}, rec A x1 = some (A', r) → gKi l yX6_hasOwn cX6_hasOwn 3 (some .boolean) (3 + 1 * fu) D g N ad ln A [gr 183, gi x1] A' r) {A0 A' : gM} {r : Int32} (C : gC p R s m args meth c cX6_hasOwn RX6 3 D g (va_A (gw g ad ln A0 N) s.heap.size) (3 + 1 * fu + 1)) (hr : meth.sig.returnType = some .boolean)  {A : gM} (h : mX6_hasOwn_b40 cp rec A = some (A', r)) : gJ p l e R s m args below meth c (gEi below D g N ad ln A0 A' r args s) 3 D g (va_A (gw g ad ln A0 N) s.heap.size) N ad ln A [] 0 0 40 [] := by
  unfold mX6_hasOwn_b40 at h
  refine g_iconst (v := 1) C dX6_hasOwn_40 (by decide) ?_
  refine g_goto C dX6_hasOwn_41 (tgt := 72) (by decide) ?_
  refine g_sub [] rfl ?_
  exact wX6_hasOwn_b72 hN hcp hrec C hr h

set_option maxHeartbeats 2000000 in
set_option maxRecDepth 20000 in
theorem wX6_hasOwn_b0 (hN : 193 ≤ N) {cp : Nat} (hcp : g_cap ln cp) {rec : gM → Int32 → Option (gM × Int32)} {fu : Nat} (hrec : ∀ {A A' : gM} {x1 : Int32} {r : Int32}, rec A x1 = some (A', r) → gKi l yX6_hasOwn cX6_hasOwn 3 (some .boolean) (3 + 1 * fu) D g N ad ln A [gr 183, gi x1] A' r) {A0 A' : gM} {r : Int32} (C : gC p R s m args meth c cX6_hasOwn RX6 3 D g (va_A (gw g ad ln A0 N) s.heap.size) (3 + 1 * fu + 1)) (hr : meth.sig.returnType = some .boolean)  {A : gM} {x1 : Int32} (h : mX6_hasOwn_b0 cp rec A x1 = some (A', r)) : gJ p l e R s m args below meth c (gEi below D g N ad ln A0 A' r args s) 3 D g (va_A (gw g ad ln A0 N) s.heap.size) N ad ln A [(0, gr 183), (1, gi x1)] 0 0 0 [] := by
  unfold mX6_hasOwn_b0 at h
  refine g_aload_n C 0 dX6_hasOwn_0 rfl ?_
  refine g_iload_n C 1 dX6_hasOwn_1 rfl ?_
  obtain ⟨q1, eq1, h⟩ := g_bd h
  refine g_calliV C 183 [gi x1] (kX6_now hN hcp eq1) qs_X6_89 (by omega) (by omega) rfl rfl rfl rfl (Nat.le_of_ble_eq_true rfl) ⟨Nat.zero_le _, Nat.zero_le _⟩ dX6_hasOwn_2 ?_
  refine g_istore_n C dX6_hasOwn_5 (by decide) rfl ?_
  refine g_aload_n C 1 dX6_hasOwn_6 rfl ?_
  refine g_iload_n C 0 dX6_hasOwn_7 rfl ?_
  obtain ⟨q2, eq2, h⟩ := g_bd h
  refine g_calliV C 183 [gi q1.2] (kX6_isPair hN hcp eq2) qs_X6_92 (by omega) (by omega) rfl rfl rfl rfl (Nat.le_of_ble_eq_true rfl) ⟨Nat.zero_le _, Nat.zero_le _⟩ dX6_hasOwn_8 ?_
  refine g_if_eq C dX6_hasOwn_11 (tgt := 48) (by decide) (fun c3 => ?_) (fun c3 => ?_)
  · have h := g_tt c3 h
    refine g_aload_n C 1 dX6_hasOwn_48 rfl ?_
    refine g_get (v := gr 185) C 183 4 (by omega) rfl rfl gu_6 (by decide) qf_X6_13 rfl dX6_hasOwn_49 ?_
    refine g_iload_n C 0 dX6_hasOwn_52 rfl ?_
    obtain ⟨hg4, h⟩ := g_gd h
    refine g_iald C 185 (by omega) rfl (show g_ln ln 185 = cp from hcp.1) hg4 dX6_hasOwn_53 ?_
    refine g_iconst (v := 4) C dX6_hasOwn_54 (by decide) ?_
    refine g_icmp_ne C dX6_hasOwn_55 (tgt := 71) (by decide) (fun c5 => ?_) (fun c5 => ?_)
    · have h := g_ff c5 h
      refine g_sub [] rfl ?_
      exact wX6_hasOwn_b71 hN hcp hrec C hr h
    · have h := g_tt c5 h
      refine g_aload_n C 1 dX6_hasOwn_58 rfl ?_
      refine g_get (v := gr 188) C 183 7 (by omega) rfl rfl gu_6 (by decide) qf_X6_22 rfl dX6_hasOwn_59 ?_
      refine g_iload_n C 0 dX6_hasOwn_62 rfl ?_
      obtain ⟨hg6, h⟩ := g_gd h
      refine g_zald C (by omega) (by rw [hcp.2.2.2.1]; exact hg6) dX6_hasOwn_63 ?_
      refine g_if_eq C dX6_hasOwn_64 (tgt := 71) (by decide) (fun c7 => ?_) (fun c7 => ?_)
      · have h := g_tt c7 h
        refine g_sub [] rfl ?_
        exact wX6_hasOwn_b71 hN hcp hrec C hr h
      · have h := g_ff c7 h
        refine g_iconst (v := 1) C dX6_hasOwn_67 (by decide) ?_
        refine g_goto C dX6_hasOwn_68 (tgt := 72) (by decide) ?_
        refine g_sub [] rfl ?_
        exact wX6_hasOwn_b72 hN hcp hrec C hr h
  · have h := g_ff c3 h
    refine g_aload_n C 1 dX6_hasOwn_14 rfl ?_
    refine g_aload_n C 1 dX6_hasOwn_15 rfl ?_
    refine g_get (v := gr 186) C 183 5 (by omega) rfl rfl gu_6 (by decide) qf_X6_16 rfl dX6_hasOwn_16 ?_
    refine g_iload_n C 0 dX6_hasOwn_19 rfl ?_
    obtain ⟨hg8, h⟩ := g_gd h
    refine g_iald C 186 (by omega) rfl (show g_ln ln 186 = cp from hcp.2.1) hg8 dX6_hasOwn_20 ?_
    obtain ⟨q9, eq9, h⟩ := g_bd h
    refine g_calliV C 183 [gi (q2.1 186 q1.2.toNatClampNeg)] (hrec eq9) qs_X6_129 (by omega) (by omega) rfl rfl rfl rfl (Nat.le_of_ble_eq_true rfl) ⟨Nat.zero_le _, Nat.zero_le _⟩ dX6_hasOwn_21 ?_
    refine g_if_ne C dX6_hasOwn_24 (tgt := 40) (by decide) (fun c10 => ?_) (fun c10 => ?_)
    · have h := g_ff c10 h
      refine g_sub [] rfl ?_
      exact wX6_hasOwn_b40 hN hcp hrec C hr h
    · have h := g_tt c10 h
      refine g_aload_n C 1 dX6_hasOwn_27 rfl ?_
      refine g_aload_n C 1 dX6_hasOwn_28 rfl ?_
      refine g_get (v := gr 187) C 183 6 (by omega) rfl rfl gu_6 (by decide) qf_X6_19 rfl dX6_hasOwn_29 ?_
      refine g_iload_n C 0 dX6_hasOwn_32 rfl ?_
      obtain ⟨hg11, h⟩ := g_gd h
      refine g_iald C 187 (by omega) rfl (show g_ln ln 187 = cp from hcp.2.2.1) hg11 dX6_hasOwn_33 ?_
      obtain ⟨q12, eq12, h⟩ := g_bd h
      refine g_calliV C 183 [gi (q9.1 187 q1.2.toNatClampNeg)] (hrec eq12) qs_X6_129 (by omega) (by omega) rfl rfl rfl rfl (Nat.le_of_ble_eq_true rfl) ⟨Nat.zero_le _, Nat.zero_le _⟩ dX6_hasOwn_34 ?_
      refine g_if_eq C dX6_hasOwn_37 (tgt := 44) (by decide) (fun c13 => ?_) (fun c13 => ?_)
      · have h := g_tt c13 h
        refine g_iconst (v := 0) C dX6_hasOwn_44 (by decide) ?_
        refine g_goto C dX6_hasOwn_45 (tgt := 72) (by decide) ?_
        refine g_sub [] rfl ?_
        exact wX6_hasOwn_b72 hN hcp hrec C hr h
      · have h := g_ff c13 h
        refine g_sub [] rfl ?_
        exact wX6_hasOwn_b40 hN hcp hrec C hr h

set_option maxHeartbeats 2000000 in
set_option maxRecDepth 20000 in
theorem kX6_hasOwn_body {l : Launch} {D : va_G} {g : gT} {N : Nat} {ad ln : Nat → Nat} (hN : 193 ≤ N) {cp : Nat} (hcp : g_cap ln cp) {rec : gM → Int32 → Option (gM × Int32)} {fu : Nat} (hrec : ∀ {A A' : gM} {x1 : Int32} {r : Int32}, rec A x1 = some (A', r) → gKi l yX6_hasOwn cX6_hasOwn 3 (some .boolean) (3 + 1 * fu) D g N ad ln A [gr 183, gi x1] A' r) {A A' : gM} {x1 : Int32} {r : Int32} (h : mX6_hasOwn_body cp rec A x1 = some (A', r)) : gKi l yX6_hasOwn cX6_hasOwn 3 (some .boolean) ((3 + 1 * fu + 1)) D g N ad ln A [gr 183, gi x1] A' r := by
  refine g_meti (by decide) (Nat.le_of_ble_eq_true rfl) ?_
  intro p e s m args below meth c C hr
  refine g_sub [0, 1] rfl ?_
  exact wX6_hasOwn_b0 hN hcp hrec C hr h
set_option maxHeartbeats 2000000 in
set_option maxRecDepth 20000 in
theorem kX6_hasOwn {l : Launch} {D : va_G} {g : gT} {N : Nat} {ad ln : Nat → Nat} (hN : 193 ≤ N) {cp : Nat} (hcp : g_cap ln cp) : ∀ (f : Nat) {A A' : gM} {x1 : Int32} {r : Int32}, mX6_hasOwn cp f A x1 = some (A', r) → gKi l yX6_hasOwn cX6_hasOwn 3 (some .boolean) (3 + 1 * f) D g N ad ln A [gr 183, gi x1] A' r
  | 0, A, A', x1, r, h => by cases h
  | f + 1, A, A', x1, r, h => kX6_hasOwn_body hN hcp (fun h => kX6_hasOwn hN hcp f h) h
def mX6_join_b107 (cp : Nat) (rec : gM → Int32 → Int32 → Int32 → Option (gM × Int32)) (fu : Nat) (A : gM) (s0 : Int32) : Option (gM × Int32) :=
  if (s0 : Int32) = 0 ∨ (s0 : Int32) = 1 then some (A, s0) else none
def mX6_join_b79 (cp : Nat) (rec : gM → Int32 → Int32 → Int32 → Option (gM × Int32)) (fu : Nat) (A : gM) (x3 : Int32) (x6 : Int32) (s0 : Int32) : Option (gM × Int32) :=
  (mX6_has cp fu A s0 x6).bind fun q1 =>
  if q1.2 = 0 then
  if g_in x6 cp = true then g_let (g_up q1.1 186 x6.toNatClampNeg s0) fun A4 =>
  if (1 : Int32) = 0 ∨ (1 : Int32) = 1 then some (A4, 1) else none
  else none
  else
  (mX6_failed cp q1.1 3 x3).bind fun q6 =>
  if q6.2 = (-1) then
  mX6_join_b107 cp rec fu q6.1 0
  else
  mX6_join_b107 cp rec fu q6.1 1
def mX6_join_b63 (cp : Nat) (rec : gM → Int32 → Int32 → Int32 → Option (gM × Int32)) (fu : Nat) (A : gM) (x3 : Int32) (x4 : Int32) (x5 : Int32) (s0 : Int32) : Option (gM × Int32) :=
  if s0 = x4 then
  mX6_join_b79 cp rec fu A x3 s0 x5
  else
  mX6_join_b79 cp rec fu A x3 s0 x4
def mX6_join_b45 (cp : Nat) (rec : gM → Int32 → Int32 → Int32 → Option (gM × Int32)) (fu : Nat) (A : gM) (x3 : Int32) (x4 : Int32) (x5 : Int32) : Option (gM × Int32) :=
  if g_in x4 cp = true then
  if (A 185 x4.toNatClampNeg) = 4 then
  mX6_join_b63 cp rec fu A x3 x4 x5 x4
  else
  mX6_join_b63 cp rec fu A x3 x4 x5 x5
  else none
def mX6_join_b210 (cp : Nat) (rec : gM → Int32 → Int32 → Int32 → Option (gM × Int32)) (fu : Nat) (A : gM) (s0 : Int32) : Option (gM × Int32) :=
  if (s0 : Int32) = 0 ∨ (s0 : Int32) = 1 then some (A, s0) else none
def mX6_join_b205 (cp : Nat) (rec : gM → Int32 → Int32 → Int32 → Option (gM × Int32)) (fu : Nat) (A : gM) : Option (gM × Int32) :=
  mX6_join_b210 cp rec fu A 1
def mX6_join_b209 (cp : Nat) (rec : gM → Int32 → Int32 → Int32 → Option (gM × Int32)) (fu : Nat) (A : gM) : Option (gM × Int32) :=
  mX6_join_b210 cp rec fu A 0
def mX6_join_b151 (cp : Nat) (rec : gM → Int32 → Int32 → Int32 → Option (gM × Int32)) (fu : Nat) (A : gM) (s0 : Int32) : Option (gM × Int32) :=
  if (s0 : Int32) = 0 ∨ (s0 : Int32) = 1 then some (A, s0) else none
def mX6_join_b0 (cp : Nat) (rec : gM → Int32 → Int32 → Int32 → Option (gM × Int32)) (fu : Nat) (A : gM) (x1 : Int32) (x2 : Int32) (x3 : Int32) : Option (gM × Int32) :=
  (mX6_now cp A x1).bind fun q1 =>
  (mX6_now cp q1.1 x2).bind fun q2 =>
  if q1.2 = q2.2 then
  if (1 : Int32) = 0 ∨ (1 : Int32) = 1 then some (q2.1, 1) else none
  else
  if g_in q1.2 cp = true then
  if (q2.1 185 q1.2.toNatClampNeg) = 4 then
  mX6_join_b45 cp rec fu q2.1 x3 q1.2 q2.2
  else
  if g_in q2.2 cp = true then
  if (q2.1 185 q2.2.toNatClampNeg) = 4 then
  mX6_join_b45 cp rec fu q2.1 x3 q1.2 q2.2
  else
  if g_in q1.2 cp = true then
  if g_in q2.2 cp = true then
  if (q2.1 185 q1.2.toNatClampNeg) = (q2.1 185 q2.2.toNatClampNeg) then
  (mX6_isPair cp q2.1 q1.2).bind fun q11 =>
  if q11.2 = 0 then
  mX6_join_b205 cp rec fu q11.1
  else
  if g_in q1.2 cp = true then
  if g_in q2.2 cp = true then
  (rec q11.1 (q11.1 186 q1.2.toNatClampNeg) (q11.1 186 q2.2.toNatClampNeg) x3).bind fun q15 =>
  if q15.2 = 0 then
  mX6_join_b209 cp rec fu q15.1
  else
  if g_in q1.2 cp = true then
  if g_in q2.2 cp = true then
  (rec q15.1 (q15.1 187 q1.2.toNatClampNeg) (q15.1 187 q2.2.toNatClampNeg) x3).bind fun q19 =>
  if q19.2 = 0 then
  mX6_join_b209 cp rec fu q19.1
  else
  mX6_join_b205 cp rec fu q19.1
  else none
  else none
  else none
  else none
  else
  (mX6_failed cp q2.1 2 x3).bind fun q21 =>
  if q21.2 = (-1) then
  mX6_join_b151 cp rec fu q21.1 0
  else
  mX6_join_b151 cp rec fu q21.1 1
  else none
  else none
  else none
  else none
def mX6_join_body (cp : Nat) (rec : gM → Int32 → Int32 → Int32 → Option (gM × Int32)) (fu : Nat) (A : gM) (x1 : Int32) (x2 : Int32) (x3 : Int32) : Option (gM × Int32) := mX6_join_b0 cp rec fu A x1 x2 x3
def mX6_join (cp : Nat) : Nat → gM → Int32 → Int32 → Int32 → Option (gM × Int32)
  | 0 => fun _ _ _ _ => none
  | f + 1 => mX6_join_body cp (mX6_join cp f) f
set_option maxHeartbeats 2000000 in
set_option maxRecDepth 20000 in
theorem wX6_join_b107 (hN : 193 ≤ N) {cp : Nat} (hcp : g_cap ln cp) {rec : gM → Int32 → Int32 → Int32 → Option (gM × Int32)} {fu : Nat} (hrec : ∀ {A A' : gM} {x1 : Int32} {x2 : Int32} {x3 : Int32} {r : Int32}, rec A x1 x2 x3 = some (A', r) → gKi l yX6_join cX6_join 8 (some .boolean) (5 + 1 * fu) D g N ad ln A [gr 183, gi x1, gi x2, gi x3] A' r) {A0 A' : gM} {r : Int32} (C : gC p R s m args meth c cX6_join RX6 8 D g (va_A (gw g ad ln A0 N) s.heap.size) (5 + 1 * fu + 1)) (hr : meth.sig.returnType = some .boolean)  {A : gM} {s0 : Int32} (h : mX6_join_b107 cp rec fu A s0 = some (A', r)) : gJ p l e R s m args below meth c (gEi below D g N ad ln A0 A' r args s) 8 D g (va_A (gw g ad ln A0 N) s.heap.size) N ad ln A [] 0 0 107 [gi s0] := by
  unfold mX6_join_b107 at h
  obtain ⟨hz1, h⟩ := g_gd h
  obtain ⟨rfl, rfl⟩ := Prod.mk.inj (Option.some.inj h)
  exact g_retz C hr hz1 dX6_join_107

set_option maxHeartbeats 2000000 in
set_option maxRecDepth 20000 in
theorem wX6_join_b79 (hN : 193 ≤ N) {cp : Nat} (hcp : g_cap ln cp) {rec : gM → Int32 → Int32 → Int32 → Option (gM × Int32)} {fu : Nat} (hrec : ∀ {A A' : gM} {x1 : Int32} {x2 : Int32} {x3 : Int32} {r : Int32}, rec A x1 x2 x3 = some (A', r) → gKi l yX6_join cX6_join 8 (some .boolean) (5 + 1 * fu) D g N ad ln A [gr 183, gi x1, gi x2, gi x3] A' r) {A0 A' : gM} {r : Int32} (C : gC p R s m args meth c cX6_join RX6 8 D g (va_A (gw g ad ln A0 N) s.heap.size) (5 + 1 * fu + 1)) (hr : meth.sig.returnType = some .boolean)  {A : gM} {x3 : Int32} {x6 : Int32} {s0 : Int32} (h : mX6_join_b79 cp rec fu A x3 x6 s0 = some (A', r)) : gJ p l e R s m args below meth c (gEi below D g N ad ln A0 A' r args s) 8 D g (va_A (gw g ad ln A0 N) s.heap.size) N ad ln A [(0, gr 183), (3, gi x3), (6, gi x6)] 0 0 79 [gi s0] := by
  unfold mX6_join_b79 at h
  refine g_istore C dX6_join_79 (by decide) rfl ?_
  refine g_aload_n C 1 dX6_join_81 rfl ?_
  refine g_iload C 0 dX6_join_82 rfl ?_
  refine g_iload C 3 dX6_join_84 rfl ?_
  obtain ⟨q1, eq1, h⟩ := g_bd h
  refine g_calliV C 183 [gi s0, gi x6] (kX6_has hN hcp fu eq1) qs_X6_95 (by omega) (by omega) rfl rfl rfl rfl (Nat.le_of_ble_eq_true rfl) ⟨Nat.zero_le _, Nat.zero_le _⟩ dX6_join_86 ?_
  refine g_if_eq C dX6_join_89 (tgt := 108) (by decide) (fun c2 => ?_) (fun c2 => ?_)
  · have h := g_tt c2 h
    refine g_aload_n C 1 dX6_join_108 rfl ?_
    refine g_get (v := gr 186) C 183 5 (by omega) rfl rfl gu_6 (by decide) qf_X6_16 rfl dX6_join_109 ?_
    refine g_iload C 3 dX6_join_112 rfl ?_
    refine g_iload C 0 dX6_join_114 rfl ?_
    obtain ⟨hg3, h⟩ := g_gd h
    obtain ⟨A4, eA4, h⟩ := g_lt h
    refine g_iast C 186 (by omega) rfl (show g_ln ln 186 = cp from hcp.2.1) hg3 eA4 dX6_join_116 ?_
    refine g_iconst (v := 1) C dX6_join_117 (by decide) ?_
    obtain ⟨hz5, h⟩ := g_gd h
    obtain ⟨rfl, rfl⟩ := Prod.mk.inj (Option.some.inj h)
    exact g_retz C hr hz5 dX6_join_118
  · have h := g_ff c2 h
    refine g_aload_n C 1 dX6_join_92 rfl ?_
    refine g_iconst (v := 3) C dX6_join_93 (by decide) ?_
    refine g_iload_n C 2 dX6_join_94 rfl ?_
    obtain ⟨q6, eq6, h⟩ := g_bd h
    refine g_calliV C 183 [gi 3, gi x3] (kX6_failed hN hcp eq6) qs_X6_105 (by omega) (by omega) rfl rfl rfl rfl (Nat.le_of_ble_eq_true rfl) ⟨Nat.zero_le _, Nat.zero_le _⟩ dX6_join_95 ?_
    refine g_iconst (v := (-1)) C dX6_join_98 (by decide) ?_
    refine g_icmp_eq C dX6_join_99 (tgt := 106) (by decide) (fun c7 => ?_) (fun c7 => ?_)
    · have h := g_tt c7 h
      refine g_iconst (v := 0) C dX6_join_106 (by decide) ?_
      refine g_sub [] rfl ?_
      exact wX6_join_b107 hN hcp hrec C hr h
    · have h := g_ff c7 h
      refine g_iconst (v := 1) C dX6_join_102 (by decide) ?_
      refine g_goto C dX6_join_103 (tgt := 107) (by decide) ?_
      refine g_sub [] rfl ?_
      exact wX6_join_b107 hN hcp hrec C hr h

set_option maxHeartbeats 2000000 in
set_option maxRecDepth 20000 in
theorem wX6_join_b63 (hN : 193 ≤ N) {cp : Nat} (hcp : g_cap ln cp) {rec : gM → Int32 → Int32 → Int32 → Option (gM × Int32)} {fu : Nat} (hrec : ∀ {A A' : gM} {x1 : Int32} {x2 : Int32} {x3 : Int32} {r : Int32}, rec A x1 x2 x3 = some (A', r) → gKi l yX6_join cX6_join 8 (some .boolean) (5 + 1 * fu) D g N ad ln A [gr 183, gi x1, gi x2, gi x3] A' r) {A0 A' : gM} {r : Int32} (C : gC p R s m args meth c cX6_join RX6 8 D g (va_A (gw g ad ln A0 N) s.heap.size) (5 + 1 * fu + 1)) (hr : meth.sig.returnType = some .boolean)  {A : gM} {x3 : Int32} {x4 : Int32} {x5 : Int32} {s0 : Int32} (h : mX6_join_b63 cp rec fu A x3 x4 x5 s0 = some (A', r)) : gJ p l e R s m args below meth c (gEi below D g N ad ln A0 A' r args s) 8 D g (va_A (gw g ad ln A0 N) s.heap.size) N ad ln A [(0, gr 183), (3, gi x3), (4, gi x4), (5, gi x5)] 0 0 63 [gi s0] := by
  unfold mX6_join_b63 at h
  refine g_istore C dX6_join_63 (by decide) rfl ?_
  refine g_iload C 0 dX6_join_65 rfl ?_
  refine g_iload C 3 dX6_join_67 rfl ?_
  refine g_icmp_ne C dX6_join_69 (tgt := 77) (by decide) (fun c1 => ?_) (fun c1 => ?_)
  · have h := g_ff c1 h
    refine g_iload C 3 dX6_join_77 rfl ?_
    refine g_sub [1, 2, 0] rfl ?_
    exact wX6_join_b79 hN hcp hrec C hr h
  · have h := g_tt c1 h
    refine g_iload C 4 dX6_join_72 rfl ?_
    refine g_goto C dX6_join_74 (tgt := 79) (by decide) ?_
    refine g_sub [1, 2, 0] rfl ?_
    exact wX6_join_b79 hN hcp hrec C hr h

set_option maxHeartbeats 2000000 in
set_option maxRecDepth 20000 in
theorem wX6_join_b45 (hN : 193 ≤ N) {cp : Nat} (hcp : g_cap ln cp) {rec : gM → Int32 → Int32 → Int32 → Option (gM × Int32)} {fu : Nat} (hrec : ∀ {A A' : gM} {x1 : Int32} {x2 : Int32} {x3 : Int32} {r : Int32}, rec A x1 x2 x3 = some (A', r) → gKi l yX6_join cX6_join 8 (some .boolean) (5 + 1 * fu) D g N ad ln A [gr 183, gi x1, gi x2, gi x3] A' r) {A0 A' : gM} {r : Int32} (C : gC p R s m args meth c cX6_join RX6 8 D g (va_A (gw g ad ln A0 N) s.heap.size) (5 + 1 * fu + 1)) (hr : meth.sig.returnType = some .boolean)  {A : gM} {x3 : Int32} {x4 : Int32} {x5 : Int32} (h : mX6_join_b45 cp rec fu A x3 x4 x5 = some (A', r)) : gJ p l e R s m args below meth c (gEi below D g N ad ln A0 A' r args s) 8 D g (va_A (gw g ad ln A0 N) s.heap.size) N ad ln A [(0, gr 183), (3, gi x3), (4, gi x4), (5, gi x5)] 0 0 45 [] := by
  unfold mX6_join_b45 at h
  refine g_aload_n C 0 dX6_join_45 rfl ?_
  refine g_get (v := gr 185) C 183 4 (by omega) rfl rfl gu_6 (by decide) qf_X6_13 rfl dX6_join_46 ?_
  refine g_iload C 2 dX6_join_49 rfl ?_
  obtain ⟨hg1, h⟩ := g_gd h
  refine g_iald C 185 (by omega) rfl (show g_ln ln 185 = cp from hcp.1) hg1 dX6_join_51 ?_
  refine g_iconst (v := 4) C dX6_join_52 (by decide) ?_
  refine g_icmp_ne C dX6_join_53 (tgt := 61) (by decide) (fun c2 => ?_) (fun c2 => ?_)
  · have h := g_ff c2 h
    refine g_iload C 3 dX6_join_61 rfl ?_
    refine g_sub [0, 1, 2, 3] rfl ?_
    exact wX6_join_b63 hN hcp hrec C hr h
  · have h := g_tt c2 h
    refine g_iload C 2 dX6_join_56 rfl ?_
    refine g_goto C dX6_join_58 (tgt := 63) (by decide) ?_
    refine g_sub [0, 1, 2, 3] rfl ?_
    exact wX6_join_b63 hN hcp hrec C hr h

set_option maxHeartbeats 2000000 in
set_option maxRecDepth 20000 in
theorem wX6_join_b210 (hN : 193 ≤ N) {cp : Nat} (hcp : g_cap ln cp) {rec : gM → Int32 → Int32 → Int32 → Option (gM × Int32)} {fu : Nat} (hrec : ∀ {A A' : gM} {x1 : Int32} {x2 : Int32} {x3 : Int32} {r : Int32}, rec A x1 x2 x3 = some (A', r) → gKi l yX6_join cX6_join 8 (some .boolean) (5 + 1 * fu) D g N ad ln A [gr 183, gi x1, gi x2, gi x3] A' r) {A0 A' : gM} {r : Int32} (C : gC p R s m args meth c cX6_join RX6 8 D g (va_A (gw g ad ln A0 N) s.heap.size) (5 + 1 * fu + 1)) (hr : meth.sig.returnType = some .boolean)  {A : gM} {s0 : Int32} (h : mX6_join_b210 cp rec fu A s0 = some (A', r)) : gJ p l e R s m args below meth c (gEi below D g N ad ln A0 A' r args s) 8 D g (va_A (gw g ad ln A0 N) s.heap.size) N ad ln A [] 0 0 210 [gi s0] := by
  unfold mX6_join_b210 at h
  obtain ⟨hz1, h⟩ := g_gd h
  obtain ⟨rfl, rfl⟩ := Prod.mk.inj (Option.some.inj h)
  exact g_retz C hr hz1 dX6_join_210

set_option maxHeartbeats 2000000 in
set_option maxRecDepth 20000 in
theorem wX6_join_b205 (hN : 193 ≤ N) {cp : Nat} (hcp : g_cap ln cp) {rec : gM → Int32 → Int32 → Int32 → Option (gM × Int32)} {fu : Nat} (hrec : ∀ {A A' : gM} {x1 : Int32} {x2 : Int32} {x3 : Int32} {r : Int32}, rec A x1 x2 x3 = some (A', r) → gKi l yX6_join cX6_join 8 (some .boolean) (5 + 1 * fu) D g N ad ln A [gr 183, gi x1, gi x2, gi x3] A' r) {A0 A' : gM} {r : Int32} (C : gC p R s m args meth c cX6_join RX6 8 D g (va_A (gw g ad ln A0 N) s.heap.size) (5 + 1 * fu + 1)) (hr : meth.sig.returnType = some .boolean)  {A : gM} (h : mX6_join_b205 cp rec fu A = some (A', r)) : gJ p l e R s m args below meth c (gEi below D g N ad ln A0 A' r args s) 8 D g (va_A (gw g ad ln A0 N) s.heap.size) N ad ln A [] 0 0 205 [] := by
  unfold mX6_join_b205 at h
  refine g_iconst (v := 1) C dX6_join_205 (by decide) ?_
  refine g_goto C dX6_join_206 (tgt := 210) (by decide) ?_
  refine g_sub [] rfl ?_
  exact wX6_join_b210 hN hcp hrec C hr h

set_option maxHeartbeats 2000000 in
set_option maxRecDepth 20000 in
theorem wX6_join_b209 (hN : 193 ≤ N) {cp : Nat} (hcp : g_cap ln cp) {rec : gM → Int32 → Int32 → Int32 → Option (gM × Int32)} {fu : Nat} (hrec : ∀ {A A' : gM} {x1 : Int32} {x2 : Int32} {x3 : Int32} {r : Int32}, rec A x1 x2 x3 = some (A', r) → gKi l yX6_join cX6_join 8 (some .boolean) (5 + 1 * fu) D g N ad ln A [gr 183, gi x1, gi x2, gi x3] A' r) {A0 A' : gM} {r : Int32} (C : gC p R s m args meth c cX6_join RX6 8 D g (va_A (gw g ad ln A0 N) s.heap.size) (5 + 1 * fu + 1)) (hr : meth.sig.returnType = some .boolean)  {A : gM} (h : mX6_join_b209 cp rec fu A = some (A', r)) : gJ p l e R s m args below meth c (gEi below D g N ad ln A0 A' r args s) 8 D g (va_A (gw g ad ln A0 N) s.heap.size) N ad ln A [] 0 0 209 [] := by
  unfold mX6_join_b209 at h
  refine g_iconst (v := 0) C dX6_join_209 (by decide) ?_
  refine g_sub [] rfl ?_
  exact wX6_join_b210 hN hcp hrec C hr h

set_option maxHeartbeats 2000000 in
set_option maxRecDepth 20000 in
theorem wX6_join_b151 (hN : 193 ≤ N) {cp : Nat} (hcp : g_cap ln cp) {rec : gM → Int32 → Int32 → Int32 → Option (gM × Int32)} {fu : Nat} (hrec : ∀ {A A' : gM} {x1 : Int32} {x2 : Int32} {x3 : Int32} {r : Int32}, rec A x1 x2 x3 = some (A', r) → gKi l yX6_join cX6_join 8 (some .boolean) (5 + 1 * fu) D g N ad ln A [gr 183, gi x1, gi x2, gi x3] A' r) {A0 A' : gM} {r : Int32} (C : gC p R s m args meth c cX6_join RX6 8 D g (va_A (gw g ad ln A0 N) s.heap.size) (5 + 1 * fu + 1)) (hr : meth.sig.returnType = some .boolean)  {A : gM} {s0 : Int32} (h : mX6_join_b151 cp rec fu A s0 = some (A', r)) : gJ p l e R s m args below meth c (gEi below D g N ad ln A0 A' r args s) 8 D g (va_A (gw g ad ln A0 N) s.heap.size) N ad ln A [] 0 0 151 [gi s0] := by
  unfold mX6_join_b151 at h
  obtain ⟨hz1, h⟩ := g_gd h
  obtain ⟨rfl, rfl⟩ := Prod.mk.inj (Option.some.inj h)
  exact g_retz C hr hz1 dX6_join_151

set_option maxHeartbeats 2000000 in
set_option maxRecDepth 20000 in
theorem wX6_join_b0 (hN : 193 ≤ N) {cp : Nat} (hcp : g_cap ln cp) {rec : gM → Int32 → Int32 → Int32 → Option (gM × Int32)} {fu : Nat} (hrec : ∀ {A A' : gM} {x1 : Int32} {x2 : Int32} {x3 : Int32} {r : Int32}, rec A x1 x2 x3 = some (A', r) → gKi l yX6_join cX6_join 8 (some .boolean) (5 + 1 * fu) D g N ad ln A [gr 183, gi x1, gi x2, gi x3] A' r) {A0 A' : gM} {r : Int32} (C : gC p R s m args meth c cX6_join RX6 8 D g (va_A (gw g ad ln A0 N) s.heap.size) (5 + 1 * fu + 1)) (hr : meth.sig.returnType = some .boolean)  {A : gM} {x1 : Int32} {x2 : Int32} {x3 : Int32} (h : mX6_join_b0 cp rec fu A x1 x2 x3 = some (A', r)) : gJ p l e R s m args below meth c (gEi below D g N ad ln A0 A' r args s) 8 D g (va_A (gw g ad ln A0 N) s.heap.size) N ad ln A [(0, gr 183), (1, gi x1), (2, gi x2), (3, gi x3)] 0 0 0 [] := by
  unfold mX6_join_b0 at h
  refine g_aload_n C 0 dX6_join_0 rfl ?_
  refine g_iload_n C 1 dX6_join_1 rfl ?_
  obtain ⟨q1, eq1, h⟩ := g_bd h
  refine g_calliV C 183 [gi x1] (kX6_now hN hcp eq1) qs_X6_89 (by omega) (by omega) rfl rfl rfl rfl (Nat.le_of_ble_eq_true rfl) ⟨Nat.zero_le _, Nat.zero_le _⟩ dX6_join_2 ?_
  refine g_istore C dX6_join_5 (by decide) rfl ?_
  refine g_aload_n C 1 dX6_join_7 rfl ?_
  refine g_iload_n C 3 dX6_join_8 rfl ?_
  obtain ⟨q2, eq2, h⟩ := g_bd h
  refine g_calliV C 183 [gi x2] (kX6_now hN hcp eq2) qs_X6_89 (by omega) (by omega) rfl rfl rfl rfl (Nat.le_of_ble_eq_true rfl) ⟨Nat.zero_le _, Nat.zero_le _⟩ dX6_join_9 ?_
  refine g_istore C dX6_join_12 (by decide) rfl ?_
  refine g_iload C 1 dX6_join_14 rfl ?_
  refine g_iload C 0 dX6_join_16 rfl ?_
  refine g_icmp_ne C dX6_join_18 (tgt := 23) (by decide) (fun c3 => ?_) (fun c3 => ?_)
  · have h := g_ff c3 h
    refine g_aload_n C 2 dX6_join_23 rfl ?_
    refine g_get (v := gr 185) C 183 4 (by omega) rfl rfl gu_6 (by decide) qf_X6_13 rfl dX6_join_24 ?_
    refine g_iload C 1 dX6_join_27 rfl ?_
    obtain ⟨hg4, h⟩ := g_gd h
    refine g_iald C 185 (by omega) rfl (show g_ln ln 185 = cp from hcp.1) hg4 dX6_join_29 ?_
    refine g_iconst (v := 4) C dX6_join_30 (by decide) ?_
    refine g_icmp_eq C dX6_join_31 (tgt := 45) (by decide) (fun c5 => ?_) (fun c5 => ?_)
    · have h := g_tt c5 h
      refine g_sub [2, 5, 1, 0] rfl ?_
      exact wX6_join_b45 hN hcp hrec C hr h
    · have h := g_ff c5 h
      refine g_aload_n C 2 dX6_join_34 rfl ?_
      refine g_get (v := gr 185) C 183 4 (by omega) rfl rfl gu_6 (by decide) qf_X6_13 rfl dX6_join_35 ?_
      refine g_iload C 0 dX6_join_38 rfl ?_
      obtain ⟨hg6, h⟩ := g_gd h
      refine g_iald C 185 (by omega) rfl (show g_ln ln 185 = cp from hcp.1) hg6 dX6_join_40 ?_
      refine g_iconst (v := 4) C dX6_join_41 (by decide) ?_
      refine g_icmp_ne C dX6_join_42 (tgt := 119) (by decide) (fun c7 => ?_) (fun c7 => ?_)
      · have h := g_ff c7 h
        refine g_aload_n C 2 dX6_join_119 rfl ?_
        refine g_get (v := gr 185) C 183 4 (by omega) rfl rfl gu_6 (by decide) qf_X6_13 rfl dX6_join_120 ?_
        refine g_iload C 1 dX6_join_123 rfl ?_
        obtain ⟨hg8, h⟩ := g_gd h
        refine g_iald C 185 (by omega) rfl (show g_ln ln 185 = cp from hcp.1) hg8 dX6_join_125 ?_
        refine g_aload_n C 2 dX6_join_126 rfl ?_
        refine g_get (v := gr 185) C 183 4 (by omega) rfl rfl gu_6 (by decide) qf_X6_13 rfl dX6_join_127 ?_
        refine g_iload C 0 dX6_join_130 rfl ?_
        obtain ⟨hg9, h⟩ := g_gd h
        refine g_iald C 185 (by omega) rfl (show g_ln ln 185 = cp from hcp.1) hg9 dX6_join_132 ?_
        refine g_icmp_eq C dX6_join_133 (tgt := 152) (by decide) (fun c10 => ?_) (fun c10 => ?_)
        · have h := g_tt c10 h
          refine g_aload_n C 2 dX6_join_152 rfl ?_
          refine g_iload C 1 dX6_join_153 rfl ?_
          obtain ⟨q11, eq11, h⟩ := g_bd h
          refine g_calliV C 183 [gi q1.2] (kX6_isPair hN hcp eq11) qs_X6_92 (by omega) (by omega) rfl rfl rfl rfl (Nat.le_of_ble_eq_true rfl) ⟨Nat.zero_le _, Nat.zero_le _⟩ dX6_join_155 ?_
          refine g_if_eq C dX6_join_158 (tgt := 205) (by decide) (fun c12 => ?_) (fun c12 => ?_)
          · have h := g_tt c12 h
            refine g_sub [] rfl ?_
            exact wX6_join_b205 hN hcp hrec C hr h
          · have h := g_ff c12 h
            refine g_aload_n C 2 dX6_join_161 rfl ?_
            refine g_aload_n C 2 dX6_join_162 rfl ?_
            refine g_get (v := gr 186) C 183 5 (by omega) rfl rfl gu_6 (by decide) qf_X6_16 rfl dX6_join_163 ?_
            refine g_iload C 1 dX6_join_166 rfl ?_
            obtain ⟨hg13, h⟩ := g_gd h
            refine g_iald C 186 (by omega) rfl (show g_ln ln 186 = cp from hcp.2.1) hg13 dX6_join_168 ?_
            refine g_aload_n C 2 dX6_join_169 rfl ?_
            refine g_get (v := gr 186) C 183 5 (by omega) rfl rfl gu_6 (by decide) qf_X6_16 rfl dX6_join_170 ?_
            refine g_iload C 0 dX6_join_173 rfl ?_
            obtain ⟨hg14, h⟩ := g_gd h
            refine g_iald C 186 (by omega) rfl (show g_ln ln 186 = cp from hcp.2.1) hg14 dX6_join_175 ?_
            refine g_iload_n C 5 dX6_join_176 rfl ?_
            obtain ⟨q15, eq15, h⟩ := g_bd h
            refine g_calliV C 183 [gi (q11.1 186 q1.2.toNatClampNeg), gi (q11.1 186 q2.2.toNatClampNeg), gi x3] (hrec eq15) qs_X6_108 (by omega) (by omega) rfl rfl rfl rfl (Nat.le_of_ble_eq_true rfl) ⟨Nat.zero_le _, Nat.zero_le _⟩ dX6_join_177 ?_
            refine g_if_eq C dX6_join_180 (tgt := 209) (by decide) (fun c16 => ?_) (fun c16 => ?_)
            · have h := g_tt c16 h
              refine g_sub [] rfl ?_
              exact wX6_join_b209 hN hcp hrec C hr h
            · have h := g_ff c16 h
              refine g_aload_n C 2 dX6_join_183 rfl ?_
              refine g_aload_n C 2 dX6_join_184 rfl ?_
              refine g_get (v := gr 187) C 183 6 (by omega) rfl rfl gu_6 (by decide) qf_X6_19 rfl dX6_join_185 ?_
              refine g_iload C 1 dX6_join_188 rfl ?_
              obtain ⟨hg17, h⟩ := g_gd h
              refine g_iald C 187 (by omega) rfl (show g_ln ln 187 = cp from hcp.2.2.1) hg17 dX6_join_190 ?_
              refine g_aload_n C 2 dX6_join_191 rfl ?_
              refine g_get (v := gr 187) C 183 6 (by omega) rfl rfl gu_6 (by decide) qf_X6_19 rfl dX6_join_192 ?_
              refine g_iload C 0 dX6_join_195 rfl ?_
              obtain ⟨hg18, h⟩ := g_gd h
              refine g_iald C 187 (by omega) rfl (show g_ln ln 187 = cp from hcp.2.2.1) hg18 dX6_join_197 ?_
              refine g_iload_n C 5 dX6_join_198 rfl ?_
              obtain ⟨q19, eq19, h⟩ := g_bd h
              refine g_calliV C 183 [gi (q15.1 187 q1.2.toNatClampNeg), gi (q15.1 187 q2.2.toNatClampNeg), gi x3] (hrec eq19) qs_X6_108 (by omega) (by omega) rfl rfl rfl rfl (Nat.le_of_ble_eq_true rfl) ⟨Nat.zero_le _, Nat.zero_le _⟩ dX6_join_199 ?_
              refine g_if_eq C dX6_join_202 (tgt := 209) (by decide) (fun c20 => ?_) (fun c20 => ?_)
              · have h := g_tt c20 h
                refine g_sub [] rfl ?_
                exact wX6_join_b209 hN hcp hrec C hr h
              · have h := g_ff c20 h
                refine g_sub [] rfl ?_
                exact wX6_join_b205 hN hcp hrec C hr h
        · have h := g_ff c10 h
          refine g_aload_n C 2 dX6_join_136 rfl ?_
          refine g_iconst (v := 2) C dX6_join_137 (by decide) ?_
          refine g_iload_n C 5 dX6_join_138 rfl ?_
          obtain ⟨q21, eq21, h⟩ := g_bd h
          refine g_calliV C 183 [gi 2, gi x3] (kX6_failed hN hcp eq21) qs_X6_105 (by omega) (by omega) rfl rfl rfl rfl (Nat.le_of_ble_eq_true rfl) ⟨Nat.zero_le _, Nat.zero_le _⟩ dX6_join_139 ?_
          refine g_iconst (v := (-1)) C dX6_join_142 (by decide) ?_
          refine g_icmp_eq C dX6_join_143 (tgt := 150) (by decide) (fun c22 => ?_) (fun c22 => ?_)
          · have h := g_tt c22 h
            refine g_iconst (v := 0) C dX6_join_150 (by decide) ?_
            refine g_sub [] rfl ?_
            exact wX6_join_b151 hN hcp hrec C hr h
          · have h := g_ff c22 h
            refine g_iconst (v := 1) C dX6_join_146 (by decide) ?_
            refine g_goto C dX6_join_147 (tgt := 151) (by decide) ?_
            refine g_sub [] rfl ?_
            exact wX6_join_b151 hN hcp hrec C hr h
      · have h := g_tt c7 h
        refine g_sub [2, 5, 1, 0] rfl ?_
        exact wX6_join_b45 hN hcp hrec C hr h
  · have h := g_tt c3 h
    refine g_iconst (v := 1) C dX6_join_21 (by decide) ?_
    obtain ⟨hz23, h⟩ := g_gd h
    obtain ⟨rfl, rfl⟩ := Prod.mk.inj (Option.some.inj h)
    exact g_retz C hr hz23 dX6_join_22

set_option maxHeartbeats 2000000 in
set_option maxRecDepth 20000 in
theorem kX6_join_body {l : Launch} {D : va_G} {g : gT} {N : Nat} {ad ln : Nat → Nat} (hN : 193 ≤ N) {cp : Nat} (hcp : g_cap ln cp) {rec : gM → Int32 → Int32 → Int32 → Option (gM × Int32)} {fu : Nat} (hrec : ∀ {A A' : gM} {x1 : Int32} {x2 : Int32} {x3 : Int32} {r : Int32}, rec A x1 x2 x3 = some (A', r) → gKi l yX6_join cX6_join 8 (some .boolean) (5 + 1 * fu) D g N ad ln A [gr 183, gi x1, gi x2, gi x3] A' r) {A A' : gM} {x1 : Int32} {x2 : Int32} {x3 : Int32} {r : Int32} (h : mX6_join_body cp rec fu A x1 x2 x3 = some (A', r)) : gKi l yX6_join cX6_join 8 (some .boolean) ((5 + 1 * fu + 1)) D g N ad ln A [gr 183, gi x1, gi x2, gi x3] A' r := by
  refine g_meti (by decide) (Nat.le_of_ble_eq_true rfl) ?_
  intro p e s m args below meth c C hr
  refine g_sub [0, 1, 2, 3] rfl ?_
  exact wX6_join_b0 hN hcp hrec C hr h
set_option maxHeartbeats 2000000 in
set_option maxRecDepth 20000 in
theorem kX6_join {l : Launch} {D : va_G} {g : gT} {N : Nat} {ad ln : Nat → Nat} (hN : 193 ≤ N) {cp : Nat} (hcp : g_cap ln cp) : ∀ (f : Nat) {A A' : gM} {x1 : Int32} {x2 : Int32} {x3 : Int32} {r : Int32}, mX6_join cp f A x1 x2 x3 = some (A', r) → gKi l yX6_join cX6_join 8 (some .boolean) (5 + 1 * f) D g N ad ln A [gr 183, gi x1, gi x2, gi x3] A' r
  | 0, A, A', x1, x2, x3, r, h => by cases h
  | f + 1, A, A', x1, x2, x3, r, h => kX6_join_body hN hcp (fun h => kX6_join hN hcp f h) h
def mX6_isAround_b2 (cp : Nat) (K2 : gM → Int32 → Int32 → Option (gM × Int32)) (A : gM) (x1 : Int32) (x2 : Int32) : Option (gM × Int32) :=
  if (A 183 9) ≤ x2 then
  if (0 : Int32) = 0 ∨ (0 : Int32) = 1 then some (A, 0) else none
  else
  if g_in x2 61 = true then
  (mX6_has cp 1250 A (A 191 x2.toNatClampNeg) x1).bind fun q4 =>
  if q4.2 = 0 then
  g_let (x2 + 1) fun v6 =>
  K2 q4.1 x1 v6
  else
  if (1 : Int32) = 0 ∨ (1 : Int32) = 1 then some (q4.1, 1) else none
  else none
def mX6_isAround_L2 (cp : Nat) : Nat → gM → Int32 → Int32 → Option (gM × Int32)
  | 0 => fun _ _ _ => none
  | f + 1 => mX6_isAround_b2 cp (mX6_isAround_L2 cp f)
def mX6_isAround_b0 (cp : Nat) (A : gM) (x1 : Int32) : Option (gM × Int32) :=
  mX6_isAround_L2 cp gF A x1 0
def mX6_isAround (cp : Nat) (A : gM) (x1 : Int32) : Option (gM × Int32) := mX6_isAround_b0 cp A x1
set_option maxHeartbeats 2000000 in
set_option maxRecDepth 20000 in
theorem wX6_isAround_b2 (hN : 193 ≤ N) {cp : Nat} (hcp : g_cap ln cp) {A0 A' : gM} {r : Int32} (C : gC p R s m args meth c cX6_isAround RX6 3 D g (va_A (gw g ad ln A0 N) s.heap.size) 1254) (hr : meth.sig.returnType = some .boolean) {K2 : gM → Int32 → Int32 → Option (gM × Int32)} (hK2 : ∀ {A : gM} {x1 : Int32} {x2 : Int32}, K2 A x1 x2 = some (A', r) → gJ p l e R s m args below meth c (gEi below D g N ad ln A0 A' r args s) 3 D g (va_A (gw g ad ln A0 N) s.heap.size) N ad ln A [(0, gr 183), (1, gi x1), (2, gi x2)] 0 0 2 []) {A : gM} {x1 : Int32} {x2 : Int32} (h : mX6_isAround_b2 cp K2 A x1 x2 = some (A', r)) : gJ p l e R s m args below meth c (gEi below D g N ad ln A0 A' r args s) 3 D g (va_A (gw g ad ln A0 N) s.heap.size) N ad ln A [(0, gr 183), (1, gi x1), (2, gi x2)] 0 0 2 [] := by
  unfold mX6_isAround_b2 at h
  refine g_iload_n C 2 dX6_isAround_2 rfl ?_
  refine g_aload_n C 0 dX6_isAround_3 rfl ?_
  refine g_get (v := gi (A 183 9)) C 183 9 (by omega) rfl rfl gu_6 (by decide) qf_X6_119 rfl dX6_isAround_4 ?_
  refine g_icmp_ge C dX6_isAround_7 (tgt := 32) (by decide) (fun c1 => ?_) (fun c1 => ?_)
  · have h := g_tt c1 h
    refine g_iconst (v := 0) C dX6_isAround_32 (by decide) ?_
    obtain ⟨hz2, h⟩ := g_gd h
    obtain ⟨rfl, rfl⟩ := Prod.mk.inj (Option.some.inj h)
    exact g_retz C hr hz2 dX6_isAround_33
  · have h := g_ff c1 h
    refine g_aload_n C 0 dX6_isAround_10 rfl ?_
    refine g_aload_n C 0 dX6_isAround_11 rfl ?_
    refine g_get (v := gr 191) C 183 11 (by omega) rfl rfl gu_6 (by decide) qf_X6_32 rfl dX6_isAround_12 ?_
    refine g_iload_n C 2 dX6_isAround_15 rfl ?_
    obtain ⟨hg3, h⟩ := g_gd h
    refine g_iald C 191 (by omega) rfl rfl hg3 dX6_isAround_16 ?_
    refine g_iload_n C 1 dX6_isAround_17 rfl ?_
    obtain ⟨q4, eq4, h⟩ := g_bd h
    refine g_calliV C 183 [gi (A 191 x2.toNatClampNeg), gi x1] (kX6_has hN hcp 1250 eq4) qs_X6_95 (by omega) (by omega) rfl rfl rfl rfl (Nat.le_of_ble_eq_true rfl) ⟨Nat.zero_le _, Nat.zero_le _⟩ dX6_isAround_18 ?_
    refine g_if_eq C dX6_isAround_21 (tgt := 26) (by decide) (fun c5 => ?_) (fun c5 => ?_)
    · have h := g_tt c5 h
      obtain ⟨v6, ev6, h⟩ := g_lt h
      refine g_iinc C 2 dX6_isAround_26 rfl ev6 (by decide) rfl ?_
      refine g_goto C dX6_isAround_29 (tgt := 2) (by decide) ?_
      refine g_sub [1, 2, 0] rfl ?_
      exact hK2 h
    · have h := g_ff c5 h
      refine g_iconst (v := 1) C dX6_isAround_24 (by decide) ?_
      obtain ⟨hz7, h⟩ := g_gd h
      obtain ⟨rfl, rfl⟩ := Prod.mk.inj (Option.some.inj h)
      exact g_retz C hr hz7 dX6_isAround_25

set_option maxHeartbeats 2000000 in
set_option maxRecDepth 20000 in
theorem wX6_isAround_L2 (hN : 193 ≤ N) {cp : Nat} (hcp : g_cap ln cp) {A0 A' : gM} {r : Int32} (C : gC p R s m args meth c cX6_isAround RX6 3 D g (va_A (gw g ad ln A0 N) s.heap.size) 1254) (hr : meth.sig.returnType = some .boolean)  : ∀ (f : Nat) {A : gM} {x1 : Int32} {x2 : Int32}, mX6_isAround_L2 cp f A x1 x2 = some (A', r) → gJ p l e R s m args below meth c (gEi below D g N ad ln A0 A' r args s) 3 D g (va_A (gw g ad ln A0 N) s.heap.size) N ad ln A [(0, gr 183), (1, gi x1), (2, gi x2)] 0 0 2 []
  | 0, A, x1, x2, h => by cases h
  | f + 1, A, x1, x2, h => wX6_isAround_b2 hN hcp C hr (fun {A} {x1} {x2} h => wX6_isAround_L2 hN hcp C hr f h) h
set_option maxHeartbeats 2000000 in
set_option maxRecDepth 20000 in
theorem wX6_isAround_b0 (hN : 193 ≤ N) {cp : Nat} (hcp : g_cap ln cp) {A0 A' : gM} {r : Int32} (C : gC p R s m args meth c cX6_isAround RX6 3 D g (va_A (gw g ad ln A0 N) s.heap.size) 1254) (hr : meth.sig.returnType = some .boolean)  {A : gM} {x1 : Int32} (h : mX6_isAround_b0 cp A x1 = some (A', r)) : gJ p l e R s m args below meth c (gEi below D g N ad ln A0 A' r args s) 3 D g (va_A (gw g ad ln A0 N) s.heap.size) N ad ln A [(0, gr 183), (1, gi x1)] 0 0 0 [] := by
  unfold mX6_isAround_b0 at h
  refine g_iconst (v := 0) C dX6_isAround_0 (by decide) ?_
  refine g_istore_n C dX6_isAround_1 (by decide) rfl ?_
  refine g_sub [1, 2, 0] rfl ?_
  exact wX6_isAround_L2 hN hcp C hr gF h

set_option maxHeartbeats 2000000 in
set_option maxRecDepth 20000 in
theorem kX6_isAround {l : Launch} {D : va_G} {g : gT} {N : Nat} {ad ln : Nat → Nat} (hN : 193 ≤ N) {cp : Nat} (hcp : g_cap ln cp) {A A' : gM} {x1 : Int32} {r : Int32} (h : mX6_isAround cp A x1 = some (A', r)) : gKi l yX6_isAround cX6_isAround 3 (some .boolean) (1254) D g N ad ln A [gr 183, gi x1] A' r := by
  refine g_meti (by decide) (Nat.le_of_ble_eq_true rfl) ?_
  intro p e s m args below meth c C hr
  refine g_sub [0, 1] rfl ?_
  exact wX6_isAround_b0 hN hcp C hr h
def mX6_own_b66 (cp : Nat) (rec : gM → Int32 → Option (gM)) (A : gM) : Option (gM) :=
  some A
def mX6_own_b65 (cp : Nat) (rec : gM → Int32 → Option (gM)) (A : gM) (s1 : Int32) (s2 : Int32) : Option (gM) :=
  if g_in s1 cp = true then g_let (g_up A 188 s1.toNatClampNeg (vp_nar .boolean s2)) fun A2 =>
  mX6_own_b66 cp rec A2
  else none
def mX6_own_b0 (cp : Nat) (rec : gM → Int32 → Option (gM)) (A : gM) (x1 : Int32) : Option (gM) :=
  (mX6_now cp A x1).bind fun q1 =>
  (mX6_isPair cp q1.1 q1.2).bind fun q2 =>
  if q2.2 = 0 then
  if g_in q1.2 cp = true then
  if (q2.1 185 q1.2.toNatClampNeg) = 4 then
  (mX6_isAround cp q2.1 q1.2).bind fun q6 =>
  if q6.2 = 0 then
  mX6_own_b65 cp rec q6.1 q1.2 1
  else
  mX6_own_b65 cp rec q6.1 q1.2 0
  else
  mX6_own_b66 cp rec q2.1
  else none
  else
  if g_in q1.2 cp = true then
  (rec q2.1 (q2.1 186 q1.2.toNatClampNeg)).bind fun q9 =>
  if g_in q1.2 cp = true then
  (rec q9 (q9 187 q1.2.toNatClampNeg)).bind fun q11 =>
  mX6_own_b66 cp rec q11
  else none
  else none
def mX6_own_body (cp : Nat) (rec : gM → Int32 → Option (gM)) (A : gM) (x1 : Int32) : Option (gM) := mX6_own_b0 cp rec A x1
def mX6_own (cp : Nat) : Nat → gM → Int32 → Option (gM)
  | 0 => fun _ _ => none
  | f + 1 => mX6_own_body cp (mX6_own cp f)
set_option maxHeartbeats 2000000 in
set_option maxRecDepth 20000 in
theorem wX6_own_b66 (hN : 193 ≤ N) {cp : Nat} (hcp : g_cap ln cp) {rec : gM → Int32 → Option (gM)} {fu : Nat} (hrec : ∀ {A A' : gM} {x1 : Int32}, rec A x1 = some A' → gKv l yX6_own cX6_own 3 (none) (1260 + 1 * fu) D g N ad ln A [gr 183, gi x1] A') {A0 A' : gM} (C : gC p R s m args meth c cX6_own RX6 3 D g (va_A (gw g ad ln A0 N) s.heap.size) (1260 + 1 * fu + 1)) (hr : meth.sig.returnType = none)  {A : gM} (h : mX6_own_b66 cp rec A = some A') : gJ p l e R s m args below meth c (gEv below D g N ad ln A0 A' args s) 3 D g (va_A (gw g ad ln A0 N) s.heap.size) N ad ln A [] 0 0 66 [] := by
  unfold mX6_own_b66 at h
  obtain rfl := Option.some.inj h
  exact g_retv C hr dX6_own_66

set_option maxHeartbeats 2000000 in
set_option maxRecDepth 20000 in
theorem wX6_own_b65 (hN : 193 ≤ N) {cp : Nat} (hcp : g_cap ln cp) {rec : gM → Int32 → Option (gM)} {fu : Nat} (hrec : ∀ {A A' : gM} {x1 : Int32}, rec A x1 = some A' → gKv l yX6_own cX6_own 3 (none) (1260 + 1 * fu) D g N ad ln A [gr 183, gi x1] A') {A0 A' : gM} (C : gC p R s m args meth c cX6_own RX6 3 D g (va_A (gw g ad ln A0 N) s.heap.size) (1260 + 1 * fu + 1)) (hr : meth.sig.returnType = none)  {A : gM} {s1 : Int32} {s2 : Int32} (h : mX6_own_b65 cp rec A s1 s2 = some A') : gJ p l e R s m args below meth c (gEv below D g N ad ln A0 A' args s) 3 D g (va_A (gw g ad ln A0 N) s.heap.size) N ad ln A [] 0 0 65 [gi s2, gi s1, gr 188] := by
  unfold mX6_own_b65 at h
  obtain ⟨hg1, h⟩ := g_gd h
  obtain ⟨A2, eA2, h⟩ := g_lt h
  refine g_zast C (by omega) (by rw [hcp.2.2.2.1]; exact hg1) eA2 dX6_own_65 ?_
  refine g_sub [] rfl ?_
  exact wX6_own_b66 hN hcp hrec C hr h

set_option maxHeartbeats 2000000 in
set_option maxRecDepth 20000 in
theorem wX6_own_b0 (hN : 193 ≤ N) {cp : Nat} (hcp : g_cap ln cp) {rec : gM → Int32 → Option (gM)} {fu : Nat} (hrec : ∀ {A A' : gM} {x1 : Int32}, rec A x1 = some A' → gKv l yX6_own cX6_own 3 (none) (1260 + 1 * fu) D g N ad ln A [gr 183, gi x1] A') {A0 A' : gM} (C : gC p R s m args meth c cX6_own RX6 3 D g (va_A (gw g ad ln A0 N) s.heap.size) (1260 + 1 * fu + 1)) (hr : meth.sig.returnType = none)  {A : gM} {x1 : Int32} (h : mX6_own_b0 cp rec A x1 = some A') : gJ p l e R s m args below meth c (gEv below D g N ad ln A0 A' args s) 3 D g (va_A (gw g ad ln A0 N) s.heap.size) N ad ln A [(0, gr 183), (1, gi x1)] 0 0 0 [] := by
  unfold mX6_own_b0 at h
  refine g_aload_n C 0 dX6_own_0 rfl ?_
  refine g_iload_n C 1 dX6_own_1 rfl ?_
  obtain ⟨q1, eq1, h⟩ := g_bd h
  refine g_calliV C 183 [gi x1] (kX6_now hN hcp eq1) qs_X6_89 (by omega) (by omega) rfl rfl rfl rfl (Nat.le_of_ble_eq_true rfl) ⟨Nat.zero_le _, Nat.zero_le _⟩ dX6_own_2 ?_
  refine g_istore_n C dX6_own_5 (by decide) rfl ?_
  refine g_aload_n C 1 dX6_own_6 rfl ?_
  refine g_iload_n C 0 dX6_own_7 rfl ?_
  obtain ⟨q2, eq2, h⟩ := g_bd h
  refine g_calliV C 183 [gi q1.2] (kX6_isPair hN hcp eq2) qs_X6_92 (by omega) (by omega) rfl rfl rfl rfl (Nat.le_of_ble_eq_true rfl) ⟨Nat.zero_le _, Nat.zero_le _⟩ dX6_own_8 ?_
  refine g_if_eq C dX6_own_11 (tgt := 37) (by decide) (fun c3 => ?_) (fun c3 => ?_)
  · have h := g_tt c3 h
    refine g_aload_n C 1 dX6_own_37 rfl ?_
    refine g_get (v := gr 185) C 183 4 (by omega) rfl rfl gu_6 (by decide) qf_X6_13 rfl dX6_own_38 ?_
    refine g_iload_n C 0 dX6_own_41 rfl ?_
    obtain ⟨hg4, h⟩ := g_gd h
    refine g_iald C 185 (by omega) rfl (show g_ln ln 185 = cp from hcp.1) hg4 dX6_own_42 ?_
    refine g_iconst (v := 4) C dX6_own_43 (by decide) ?_
    refine g_icmp_ne C dX6_own_44 (tgt := 66) (by decide) (fun c5 => ?_) (fun c5 => ?_)
    · have h := g_ff c5 h
      refine g_sub [] rfl ?_
      exact wX6_own_b66 hN hcp hrec C hr h
    · have h := g_tt c5 h
      refine g_aload_n C 1 dX6_own_47 rfl ?_
      refine g_get (v := gr 188) C 183 7 (by omega) rfl rfl gu_6 (by decide) qf_X6_22 rfl dX6_own_48 ?_
      refine g_iload_n C 0 dX6_own_51 rfl ?_
      refine g_aload_n C 1 dX6_own_52 rfl ?_
      refine g_iload_n C 0 dX6_own_53 rfl ?_
      obtain ⟨q6, eq6, h⟩ := g_bd h
      refine g_calliV C 183 [gi q1.2] (kX6_isAround hN hcp eq6) qs_X6_126 (by omega) (by omega) rfl rfl rfl rfl (Nat.le_of_ble_eq_true rfl) ⟨Nat.zero_le _, Nat.zero_le _⟩ dX6_own_54 ?_
      refine g_if_ne C dX6_own_57 (tgt := 64) (by decide) (fun c7 => ?_) (fun c7 => ?_)
      · have h := g_ff c7 h
        refine g_iconst (v := 0) C dX6_own_64 (by decide) ?_
        refine g_sub [] rfl ?_
        exact wX6_own_b65 hN hcp hrec C hr h
      · have h := g_tt c7 h
        refine g_iconst (v := 1) C dX6_own_60 (by decide) ?_
        refine g_goto C dX6_own_61 (tgt := 65) (by decide) ?_
        refine g_sub [] rfl ?_
        exact wX6_own_b65 hN hcp hrec C hr h
  · have h := g_ff c3 h
    refine g_aload_n C 1 dX6_own_14 rfl ?_
    refine g_aload_n C 1 dX6_own_15 rfl ?_
    refine g_get (v := gr 186) C 183 5 (by omega) rfl rfl gu_6 (by decide) qf_X6_16 rfl dX6_own_16 ?_
    refine g_iload_n C 0 dX6_own_19 rfl ?_
    obtain ⟨hg8, h⟩ := g_gd h
    refine g_iald C 186 (by omega) rfl (show g_ln ln 186 = cp from hcp.2.1) hg8 dX6_own_20 ?_
    obtain ⟨q9, eq9, h⟩ := g_bd h
    refine g_callvV C 183 [gi (q2.1 186 q1.2.toNatClampNeg)] (hrec eq9) qs_X6_122 (by omega) (by omega) rfl rfl rfl rfl (Nat.le_of_ble_eq_true rfl) ⟨Nat.zero_le _, Nat.zero_le _⟩ dX6_own_21 ?_
    refine g_aload_n C 1 dX6_own_24 rfl ?_
    refine g_aload_n C 1 dX6_own_25 rfl ?_
    refine g_get (v := gr 187) C 183 6 (by omega) rfl rfl gu_6 (by decide) qf_X6_19 rfl dX6_own_26 ?_
    refine g_iload_n C 0 dX6_own_29 rfl ?_
    obtain ⟨hg10, h⟩ := g_gd h
    refine g_iald C 187 (by omega) rfl (show g_ln ln 187 = cp from hcp.2.2.1) hg10 dX6_own_30 ?_
    obtain ⟨q11, eq11, h⟩ := g_bd h
    refine g_callvV C 183 [gi (q9 187 q1.2.toNatClampNeg)] (hrec eq11) qs_X6_122 (by omega) (by omega) rfl rfl rfl rfl (Nat.le_of_ble_eq_true rfl) ⟨Nat.zero_le _, Nat.zero_le _⟩ dX6_own_31 ?_
    refine g_goto C dX6_own_34 (tgt := 66) (by decide) ?_
    refine g_sub [] rfl ?_
    exact wX6_own_b66 hN hcp hrec C hr h

set_option maxHeartbeats 2000000 in
set_option maxRecDepth 20000 in
theorem kX6_own_body {l : Launch} {D : va_G} {g : gT} {N : Nat} {ad ln : Nat → Nat} (hN : 193 ≤ N) {cp : Nat} (hcp : g_cap ln cp) {rec : gM → Int32 → Option (gM)} {fu : Nat} (hrec : ∀ {A A' : gM} {x1 : Int32}, rec A x1 = some A' → gKv l yX6_own cX6_own 3 (none) (1260 + 1 * fu) D g N ad ln A [gr 183, gi x1] A') {A A' : gM} {x1 : Int32} (h : mX6_own_body cp rec A x1 = some A') : gKv l yX6_own cX6_own 3 (none) ((1260 + 1 * fu + 1)) D g N ad ln A [gr 183, gi x1] A' := by
  refine g_metv (by decide) (Nat.le_of_ble_eq_true rfl) ?_
  intro p e s m args below meth c C hr
  refine g_sub [0, 1] rfl ?_
  exact wX6_own_b0 hN hcp hrec C hr h
set_option maxHeartbeats 2000000 in
set_option maxRecDepth 20000 in
theorem kX6_own {l : Launch} {D : va_G} {g : gT} {N : Nat} {ad ln : Nat → Nat} (hN : 193 ≤ N) {cp : Nat} (hcp : g_cap ln cp) : ∀ (f : Nat) {A A' : gM} {x1 : Int32}, mX6_own cp f A x1 = some A' → gKv l yX6_own cX6_own 3 (none) (1260 + 1 * f) D g N ad ln A [gr 183, gi x1] A'
  | 0, A, A', x1, h => by cases h
  | f + 1, A, A', x1, h => kX6_own_body hN hcp (fun h => kX6_own hN hcp f h) h
def mX6_write_b122 (cp : Nat) (rec : gM → Int32 → Nat → Nat → Int32 → Nat → Nat → Option (gM × Int32)) (A : gM) (x3 : Int32) : Option (gM × Int32) :=
  some (A, (x3 + 1))
def mX6_write_b107 (cp : Nat) (rec : gM → Int32 → Nat → Nat → Int32 → Nat → Nat → Option (gM × Int32)) (A : gM) (x2 : Nat) (wx2 : Nat) (x3 : Int32) (x4 : Nat) (wx4 : Nat) (x5 : Int32) (x6 : Int32) : Option (gM × Int32) :=
  if g_in x6 wx4 = true then g_let (g_up A x4 x6.toNatClampNeg x5) fun A2 =>
  if g_in x3 wx2 = true then g_let (g_up A2 x2 x3.toNatClampNeg (10 + x6)) fun A4 =>
  mX6_write_b122 cp rec A4 x3
  else none
  else none
def mX6_write_b82 (cp : Nat) (rec : gM → Int32 → Nat → Nat → Int32 → Nat → Nat → Option (gM × Int32)) (K82 : gM → Nat → Nat → Int32 → Nat → Nat → Int32 → Int32 → Option (gM × Int32)) (A : gM) (x2 : Nat) (wx2 : Nat) (x3 : Int32) (x4 : Nat) (wx4 : Nat) (x5 : Int32) (x6 : Int32) : Option (gM × Int32) :=
  if g_in x6 wx4 = true then
  if (A x4 x6.toNatClampNeg) = x5 then
  mX6_write_b107 cp rec A x2 wx2 x3 x4 wx4 x5 x6
  else
  if g_in x6 wx4 = true then
  if (A x4 x6.toNatClampNeg) = (-1) then
  mX6_write_b107 cp rec A x2 wx2 x3 x4 wx4 x5 x6
  else
  g_let (x6 + 1) fun v5 =>
  K82 A x2 wx2 x3 x4 wx4 x5 v5
  else none
  else none
def mX6_write_L82 (cp : Nat) (rec : gM → Int32 → Nat → Nat → Int32 → Nat → Nat → Option (gM × Int32)) : Nat → gM → Nat → Nat → Int32 → Nat → Nat → Int32 → Int32 → Option (gM × Int32)
  | 0 => fun _ _ _ _ _ _ _ _ => none
  | f + 1 => mX6_write_b82 cp rec (mX6_write_L82 cp rec f)
def mX6_write_b0 (cp : Nat) (rec : gM → Int32 → Nat → Nat → Int32 → Nat → Nat → Option (gM × Int32)) (A : gM) (x1 : Int32) (x2 : Nat) (wx2 : Nat) (x3 : Int32) (x4 : Nat) (wx4 : Nat) : Option (gM × Int32) :=
  (mX6_now cp A x1).bind fun q1 =>
  (mX6_isPair cp q1.1 q1.2).bind fun q2 =>
  if q2.2 = 0 then
  if g_in q1.2 cp = true then
  if g_in x3 wx2 = true then g_let (g_up q2.1 x2 x3.toNatClampNeg (q2.1 185 q1.2.toNatClampNeg)) fun A6 =>
  if g_in q1.2 cp = true then
  if (A6 185 q1.2.toNatClampNeg) = 4 then
  mX6_write_L82 cp rec gF A6 x2 wx2 x3 x4 wx4 q1.2 0
  else
  mX6_write_b122 cp rec A6 x3
  else none
  else none
  else none
  else
  if g_in q1.2 cp = true then
  if g_in x3 wx2 = true then g_let (g_up q2.1 x2 x3.toNatClampNeg (q2.1 185 q1.2.toNatClampNeg)) fun A11 =>
  if g_in q1.2 cp = true then
  if g_in q1.2 cp = true then
  (rec A11 (A11 186 q1.2.toNatClampNeg) x2 wx2 (x3 + 1) x4 wx4).bind fun q14 =>
  (rec q14.1 (A11 187 q1.2.toNatClampNeg) x2 wx2 q14.2 x4 wx4).bind fun q15 =>
  some (q15.1, q15.2)
  else none
  else none
  else none
  else none
def mX6_write_body (cp : Nat) (rec : gM → Int32 → Nat → Nat → Int32 → Nat → Nat → Option (gM × Int32)) (A : gM) (x1 : Int32) (x2 : Nat) (wx2 : Nat) (x3 : Int32) (x4 : Nat) (wx4 : Nat) : Option (gM × Int32) := mX6_write_b0 cp rec A x1 x2 wx2 x3 x4 wx4
def mX6_write (cp : Nat) : Nat → gM → Int32 → Nat → Nat → Int32 → Nat → Nat → Option (gM × Int32)
  | 0 => fun _ _ _ _ _ _ _ => none
  | f + 1 => mX6_write_body cp (mX6_write cp f)
set_option maxHeartbeats 2000000 in
set_option maxRecDepth 20000 in
theorem wX6_write_b122 (hN : 193 ≤ N) {cp : Nat} (hcp : g_cap ln cp) {rec : gM → Int32 → Nat → Nat → Int32 → Nat → Nat → Option (gM × Int32)} {fu : Nat} (hrec : ∀ {A A' : gM} {x1 : Int32} {x2 : Nat} {wx2 : Nat} {x3 : Int32} {x4 : Nat} {wx4 : Nat} {r : Int32} (_ : (x2 < N ∧ g_isI x2 = true ∧ g_ln ln x2 = wx2)) (_ : (x4 < N ∧ g_isI x4 = true ∧ g_ln ln x4 = wx4)), rec A x1 x2 wx2 x3 x4 wx4 = some (A', r) → gKi l yX6_write cX6_write 7 (some .int) (3 + 1 * fu) D g N ad ln A [gr 183, gi x1, gr x2, gi x3, gr x4] A' r) {A0 A' : gM} {r : Int32} (C : gC p R s m args meth c cX6_write RX6 7 D g (va_A (gw g ad ln A0 N) s.heap.size) (3 + 1 * fu + 1)) (hr : meth.sig.returnType = some .int)  {A : gM} {x3 : Int32} (h : mX6_write_b122 cp rec A x3 = some (A', r)) : gJ p l e R s m args below meth c (gEi below D g N ad ln A0 A' r args s) 7 D g (va_A (gw g ad ln A0 N) s.heap.size) N ad ln A [(3, gi x3)] 0 0 122 [] := by
  unfold mX6_write_b122 at h
  refine g_iload_n C 0 dX6_write_122 rfl ?_
  refine g_iconst (v := 1) C dX6_write_123 (by decide) ?_
  refine g_iadd C dX6_write_124 ?_
  obtain ⟨rfl, rfl⟩ := Prod.mk.inj (Option.some.inj h)
  exact g_reti C hr dX6_write_125

set_option maxHeartbeats 2000000 in
set_option maxRecDepth 20000 in
theorem wX6_write_b107 (hN : 193 ≤ N) {cp : Nat} (hcp : g_cap ln cp) {rec : gM → Int32 → Nat → Nat → Int32 → Nat → Nat → Option (gM × Int32)} {fu : Nat} (hrec : ∀ {A A' : gM} {x1 : Int32} {x2 : Nat} {wx2 : Nat} {x3 : Int32} {x4 : Nat} {wx4 : Nat} {r : Int32} (_ : (x2 < N ∧ g_isI x2 = true ∧ g_ln ln x2 = wx2)) (_ : (x4 < N ∧ g_isI x4 = true ∧ g_ln ln x4 = wx4)), rec A x1 x2 wx2 x3 x4 wx4 = some (A', r) → gKi l yX6_write cX6_write 7 (some .int) (3 + 1 * fu) D g N ad ln A [gr 183, gi x1, gr x2, gi x3, gr x4] A' r) {A0 A' : gM} {r : Int32} (C : gC p R s m args meth c cX6_write RX6 7 D g (va_A (gw g ad ln A0 N) s.heap.size) (3 + 1 * fu + 1)) (hr : meth.sig.returnType = some .int)  {A : gM} {x2 : Nat} {wx2 : Nat} {x3 : Int32} {x4 : Nat} {wx4 : Nat} {x5 : Int32} {x6 : Int32} (hwx2 : (x2 < N ∧ g_isI x2 = true ∧ g_ln ln x2 = wx2)) (hwx4 : (x4 < N ∧ g_isI x4 = true ∧ g_ln ln x4 = wx4)) (h : mX6_write_b107 cp rec A x2 wx2 x3 x4 wx4 x5 x6 = some (A', r)) : gJ p l e R s m args below meth c (gEi below D g N ad ln A0 A' r args s) 7 D g (va_A (gw g ad ln A0 N) s.heap.size) N ad ln A [(2, gr x2), (3, gi x3), (4, gr x4), (5, gi x5), (6, gi x6)] 0 0 107 [] := by
  unfold mX6_write_b107 at h
  refine g_aload C 2 dX6_write_107 rfl ?_
  refine g_iload C 4 dX6_write_109 rfl ?_
  refine g_iload C 3 dX6_write_111 rfl ?_
  obtain ⟨hg1, h⟩ := g_gd h
  obtain ⟨A2, eA2, h⟩ := g_lt h
  refine g_iast C x4 hwx4.1 hwx4.2.1 hwx4.2.2 hg1 eA2 dX6_write_113 ?_
  refine g_aload_n C 0 dX6_write_114 rfl ?_
  refine g_iload_n C 1 dX6_write_115 rfl ?_
  refine g_bipush (v := 10) C dX6_write_116 (by decide) ?_
  refine g_iload C 4 dX6_write_118 rfl ?_
  refine g_iadd C dX6_write_120 ?_
  obtain ⟨hg3, h⟩ := g_gd h
  obtain ⟨A4, eA4, h⟩ := g_lt h
  refine g_iast C x2 hwx2.1 hwx2.2.1 hwx2.2.2 hg3 eA4 dX6_write_121 ?_
  refine g_sub [1] rfl ?_
  exact wX6_write_b122 hN hcp hrec C hr h

set_option maxHeartbeats 2000000 in
set_option maxRecDepth 20000 in
theorem wX6_write_b82 (hN : 193 ≤ N) {cp : Nat} (hcp : g_cap ln cp) {rec : gM → Int32 → Nat → Nat → Int32 → Nat → Nat → Option (gM × Int32)} {fu : Nat} (hrec : ∀ {A A' : gM} {x1 : Int32} {x2 : Nat} {wx2 : Nat} {x3 : Int32} {x4 : Nat} {wx4 : Nat} {r : Int32} (_ : (x2 < N ∧ g_isI x2 = true ∧ g_ln ln x2 = wx2)) (_ : (x4 < N ∧ g_isI x4 = true ∧ g_ln ln x4 = wx4)), rec A x1 x2 wx2 x3 x4 wx4 = some (A', r) → gKi l yX6_write cX6_write 7 (some .int) (3 + 1 * fu) D g N ad ln A [gr 183, gi x1, gr x2, gi x3, gr x4] A' r) {A0 A' : gM} {r : Int32} (C : gC p R s m args meth c cX6_write RX6 7 D g (va_A (gw g ad ln A0 N) s.heap.size) (3 + 1 * fu + 1)) (hr : meth.sig.returnType = some .int) {K82 : gM → Nat → Nat → Int32 → Nat → Nat → Int32 → Int32 → Option (gM × Int32)} (hK82 : ∀ {A : gM} {x2 : Nat} {wx2 : Nat} {x3 : Int32} {x4 : Nat} {wx4 : Nat} {x5 : Int32} {x6 : Int32} (_ : (x2 < N ∧ g_isI x2 = true ∧ g_ln ln x2 = wx2)) (_ : (x4 < N ∧ g_isI x4 = true ∧ g_ln ln x4 = wx4)), K82 A x2 wx2 x3 x4 wx4 x5 x6 = some (A', r) → gJ p l e R s m args below meth c (gEi below D g N ad ln A0 A' r args s) 7 D g (va_A (gw g ad ln A0 N) s.heap.size) N ad ln A [(2, gr x2), (3, gi x3), (4, gr x4), (5, gi x5), (6, gi x6)] 0 0 82 []) {A : gM} {x2 : Nat} {wx2 : Nat} {x3 : Int32} {x4 : Nat} {wx4 : Nat} {x5 : Int32} {x6 : Int32} (hwx2 : (x2 < N ∧ g_isI x2 = true ∧ g_ln ln x2 = wx2)) (hwx4 : (x4 < N ∧ g_isI x4 = true ∧ g_ln ln x4 = wx4)) (h : mX6_write_b82 cp rec K82 A x2 wx2 x3 x4 wx4 x5 x6 = some (A', r)) : gJ p l e R s m args below meth c (gEi below D g N ad ln A0 A' r args s) 7 D g (va_A (gw g ad ln A0 N) s.heap.size) N ad ln A [(2, gr x2), (3, gi x3), (4, gr x4), (5, gi x5), (6, gi x6)] 0 0 82 [] := by
  unfold mX6_write_b82 at h
  refine g_aload C 2 dX6_write_82 rfl ?_
  refine g_iload C 4 dX6_write_84 rfl ?_
  obtain ⟨hg1, h⟩ := g_gd h
  refine g_iald C x4 hwx4.1 hwx4.2.1 hwx4.2.2 hg1 dX6_write_86 ?_
  refine g_iload C 3 dX6_write_87 rfl ?_
  refine g_icmp_eq C dX6_write_89 (tgt := 107) (by decide) (fun c2 => ?_) (fun c2 => ?_)
  · have h := g_tt c2 h
    refine g_sub [0, 1, 2, 3, 4] rfl ?_
    exact wX6_write_b107 hN hcp hrec C hr ⟨hwx2.1, hwx2.2.1, hwx2.2.2⟩ ⟨hwx4.1, hwx4.2.1, hwx4.2.2⟩ h
  · have h := g_ff c2 h
    refine g_aload C 2 dX6_write_92 rfl ?_
    refine g_iload C 4 dX6_write_94 rfl ?_
    obtain ⟨hg3, h⟩ := g_gd h
    refine g_iald C x4 hwx4.1 hwx4.2.1 hwx4.2.2 hg3 dX6_write_96 ?_
    refine g_iconst (v := (-1)) C dX6_write_97 (by decide) ?_
    refine g_icmp_eq C dX6_write_98 (tgt := 107) (by decide) (fun c4 => ?_) (fun c4 => ?_)
    · have h := g_tt c4 h
      refine g_sub [0, 1, 2, 3, 4] rfl ?_
      exact wX6_write_b107 hN hcp hrec C hr ⟨hwx2.1, hwx2.2.1, hwx2.2.2⟩ ⟨hwx4.1, hwx4.2.1, hwx4.2.2⟩ h
    · have h := g_ff c4 h
      obtain ⟨v5, ev5, h⟩ := g_lt h
      refine g_iinc C 4 dX6_write_101 rfl ev5 (by decide) rfl ?_
      refine g_goto C dX6_write_104 (tgt := 82) (by decide) ?_
      refine g_sub [1, 2, 3, 4, 0] rfl ?_
      exact hK82 ⟨hwx2.1, hwx2.2.1, hwx2.2.2⟩ ⟨hwx4.1, hwx4.2.1, hwx4.2.2⟩ h

set_option maxHeartbeats 2000000 in
set_option maxRecDepth 20000 in
theorem wX6_write_L82 (hN : 193 ≤ N) {cp : Nat} (hcp : g_cap ln cp) {rec : gM → Int32 → Nat → Nat → Int32 → Nat → Nat → Option (gM × Int32)} {fu : Nat} (hrec : ∀ {A A' : gM} {x1 : Int32} {x2 : Nat} {wx2 : Nat} {x3 : Int32} {x4 : Nat} {wx4 : Nat} {r : Int32} (_ : (x2 < N ∧ g_isI x2 = true ∧ g_ln ln x2 = wx2)) (_ : (x4 < N ∧ g_isI x4 = true ∧ g_ln ln x4 = wx4)), rec A x1 x2 wx2 x3 x4 wx4 = some (A', r) → gKi l yX6_write cX6_write 7 (some .int) (3 + 1 * fu) D g N ad ln A [gr 183, gi x1, gr x2, gi x3, gr x4] A' r) {A0 A' : gM} {r : Int32} (C : gC p R s m args meth c cX6_write RX6 7 D g (va_A (gw g ad ln A0 N) s.heap.size) (3 + 1 * fu + 1)) (hr : meth.sig.returnType = some .int)  : ∀ (f : Nat) {A : gM} {x2 : Nat} {wx2 : Nat} {x3 : Int32} {x4 : Nat} {wx4 : Nat} {x5 : Int32} {x6 : Int32} (_ : (x2 < N ∧ g_isI x2 = true ∧ g_ln ln x2 = wx2)) (_ : (x4 < N ∧ g_isI x4 = true ∧ g_ln ln x4 = wx4)), mX6_write_L82 cp rec f A x2 wx2 x3 x4 wx4 x5 x6 = some (A', r) → gJ p l e R s m args below meth c (gEi below D g N ad ln A0 A' r args s) 7 D g (va_A (gw g ad ln A0 N) s.heap.size) N ad ln A [(2, gr x2), (3, gi x3), (4, gr x4), (5, gi x5), (6, gi x6)] 0 0 82 []
  | 0, A, x2, wx2, x3, x4, wx4, x5, x6, hwx2, hwx4, h => by cases h
  | f + 1, A, x2, wx2, x3, x4, wx4, x5, x6, hwx2, hwx4, h => wX6_write_b82 hN hcp hrec C hr (fun {A} {x2} {wx2} {x3} {x4} {wx4} {x5} {x6} hwx2 hwx4 h => wX6_write_L82 hN hcp hrec C hr f hwx2 hwx4 h) hwx2 hwx4 h
set_option maxHeartbeats 2000000 in
set_option maxRecDepth 20000 in
theorem wX6_write_b0 (hN : 193 ≤ N) {cp : Nat} (hcp : g_cap ln cp) {rec : gM → Int32 → Nat → Nat → Int32 → Nat → Nat → Option (gM × Int32)} {fu : Nat} (hrec : ∀ {A A' : gM} {x1 : Int32} {x2 : Nat} {wx2 : Nat} {x3 : Int32} {x4 : Nat} {wx4 : Nat} {r : Int32} (_ : (x2 < N ∧ g_isI x2 = true ∧ g_ln ln x2 = wx2)) (_ : (x4 < N ∧ g_isI x4 = true ∧ g_ln ln x4 = wx4)), rec A x1 x2 wx2 x3 x4 wx4 = some (A', r) → gKi l yX6_write cX6_write 7 (some .int) (3 + 1 * fu) D g N ad ln A [gr 183, gi x1, gr x2, gi x3, gr x4] A' r) {A0 A' : gM} {r : Int32} (C : gC p R s m args meth c cX6_write RX6 7 D g (va_A (gw g ad ln A0 N) s.heap.size) (3 + 1 * fu + 1)) (hr : meth.sig.returnType = some .int)  {A : gM} {x1 : Int32} {x2 : Nat} {wx2 : Nat} {x3 : Int32} {x4 : Nat} {wx4 : Nat} (hwx2 : (x2 < N ∧ g_isI x2 = true ∧ g_ln ln x2 = wx2)) (hwx4 : (x4 < N ∧ g_isI x4 = true ∧ g_ln ln x4 = wx4)) (h : mX6_write_b0 cp rec A x1 x2 wx2 x3 x4 wx4 = some (A', r)) : gJ p l e R s m args below meth c (gEi below D g N ad ln A0 A' r args s) 7 D g (va_A (gw g ad ln A0 N) s.heap.size) N ad ln A [(0, gr 183), (1, gi x1), (2, gr x2), (3, gi x3), (4, gr x4)] 0 0 0 [] := by
  unfold mX6_write_b0 at h
  refine g_aload_n C 0 dX6_write_0 rfl ?_
  refine g_iload_n C 1 dX6_write_1 rfl ?_
  obtain ⟨q1, eq1, h⟩ := g_bd h
  refine g_calliV C 183 [gi x1] (kX6_now hN hcp eq1) qs_X6_89 (by omega) (by omega) rfl rfl rfl rfl (Nat.le_of_ble_eq_true rfl) ⟨Nat.zero_le _, Nat.zero_le _⟩ dX6_write_2 ?_
  refine g_istore C dX6_write_5 (by decide) rfl ?_
  refine g_aload_n C 1 dX6_write_7 rfl ?_
  refine g_iload C 0 dX6_write_8 rfl ?_
  obtain ⟨q2, eq2, h⟩ := g_bd h
  refine g_calliV C 183 [gi q1.2] (kX6_isPair hN hcp eq2) qs_X6_92 (by omega) (by omega) rfl rfl rfl rfl (Nat.le_of_ble_eq_true rfl) ⟨Nat.zero_le _, Nat.zero_le _⟩ dX6_write_10 ?_
  refine g_if_eq C dX6_write_13 (tgt := 58) (by decide) (fun c3 => ?_) (fun c3 => ?_)
  · have h := g_tt c3 h
    refine g_aload_n C 3 dX6_write_58 rfl ?_
    refine g_iload_n C 4 dX6_write_59 rfl ?_
    refine g_aload_n C 1 dX6_write_60 rfl ?_
    refine g_get (v := gr 185) C 183 4 (by omega) rfl rfl gu_6 (by decide) qf_X6_13 rfl dX6_write_61 ?_
    refine g_iload C 0 dX6_write_64 rfl ?_
    obtain ⟨hg4, h⟩ := g_gd h
    refine g_iald C 185 (by omega) rfl (show g_ln ln 185 = cp from hcp.1) hg4 dX6_write_66 ?_
    obtain ⟨hg5, h⟩ := g_gd h
    obtain ⟨A6, eA6, h⟩ := g_lt h
    refine g_iast C x2 hwx2.1 hwx2.2.1 hwx2.2.2 hg5 eA6 dX6_write_67 ?_
    refine g_aload_n C 1 dX6_write_68 rfl ?_
    refine g_get (v := gr 185) C 183 4 (by omega) rfl rfl gu_6 (by decide) qf_X6_13 rfl dX6_write_69 ?_
    refine g_iload C 0 dX6_write_72 rfl ?_
    obtain ⟨hg7, h⟩ := g_gd h
    refine g_iald C 185 (by omega) rfl (show g_ln ln 185 = cp from hcp.1) hg7 dX6_write_74 ?_
    refine g_iconst (v := 4) C dX6_write_75 (by decide) ?_
    refine g_icmp_ne C dX6_write_76 (tgt := 122) (by decide) (fun c8 => ?_) (fun c8 => ?_)
    · have h := g_ff c8 h
      refine g_sub [4] rfl ?_
      exact wX6_write_b122 hN hcp hrec C hr h
    · have h := g_tt c8 h
      refine g_iconst (v := 0) C dX6_write_79 (by decide) ?_
      refine g_istore C dX6_write_80 (by decide) rfl ?_
      refine g_sub [4, 5, 6, 1, 0] rfl ?_
      exact wX6_write_L82 hN hcp hrec C hr gF ⟨hwx2.1, hwx2.2.1, hwx2.2.2⟩ ⟨hwx4.1, hwx4.2.1, hwx4.2.2⟩ h
  · have h := g_ff c3 h
    refine g_aload_n C 3 dX6_write_16 rfl ?_
    refine g_iload_n C 4 dX6_write_17 rfl ?_
    refine g_aload_n C 1 dX6_write_18 rfl ?_
    refine g_get (v := gr 185) C 183 4 (by omega) rfl rfl gu_6 (by decide) qf_X6_13 rfl dX6_write_19 ?_
    refine g_iload C 0 dX6_write_22 rfl ?_
    obtain ⟨hg9, h⟩ := g_gd h
    refine g_iald C 185 (by omega) rfl (show g_ln ln 185 = cp from hcp.1) hg9 dX6_write_24 ?_
    obtain ⟨hg10, h⟩ := g_gd h
    obtain ⟨A11, eA11, h⟩ := g_lt h
    refine g_iast C x2 hwx2.1 hwx2.2.1 hwx2.2.2 hg10 eA11 dX6_write_25 ?_
    refine g_aload_n C 1 dX6_write_26 rfl ?_
    refine g_aload_n C 1 dX6_write_27 rfl ?_
    refine g_get (v := gr 187) C 183 6 (by omega) rfl rfl gu_6 (by decide) qf_X6_19 rfl dX6_write_28 ?_
    refine g_iload C 0 dX6_write_31 rfl ?_
    obtain ⟨hg12, h⟩ := g_gd h
    refine g_iald C 187 (by omega) rfl (show g_ln ln 187 = cp from hcp.2.2.1) hg12 dX6_write_33 ?_
    refine g_aload_n C 3 dX6_write_34 rfl ?_
    refine g_aload_n C 1 dX6_write_35 rfl ?_
    refine g_aload_n C 1 dX6_write_36 rfl ?_
    refine g_get (v := gr 186) C 183 5 (by omega) rfl rfl gu_6 (by decide) qf_X6_16 rfl dX6_write_37 ?_
    refine g_iload C 0 dX6_write_40 rfl ?_
    obtain ⟨hg13, h⟩ := g_gd h
    refine g_iald C 186 (by omega) rfl (show g_ln ln 186 = cp from hcp.2.1) hg13 dX6_write_42 ?_
    refine g_aload_n C 3 dX6_write_43 rfl ?_
    refine g_iload_n C 4 dX6_write_44 rfl ?_
    refine g_iconst (v := 1) C dX6_write_45 (by decide) ?_
    refine g_iadd C dX6_write_46 ?_
    refine g_aload C 5 dX6_write_47 rfl ?_
    obtain ⟨q14, eq14, h⟩ := g_bd h
    refine g_calliV C 183 [gi (A11 186 q1.2.toNatClampNeg), gr x2, gi (x3 + 1), gr x4] (hrec ⟨hwx2.1, hwx2.2.1, hwx2.2.2⟩ ⟨hwx4.1, hwx4.2.1, hwx4.2.2⟩ eq14) qs_X6_169 (by omega) (by omega) rfl rfl rfl rfl (Nat.le_of_ble_eq_true rfl) ⟨Nat.zero_le _, Nat.zero_le _⟩ dX6_write_49 ?_
    refine g_aload C 5 dX6_write_52 rfl ?_
    obtain ⟨q15, eq15, h⟩ := g_bd h
    refine g_calliV C 183 [gi (A11 187 q1.2.toNatClampNeg), gr x2, gi q14.2, gr x4] (hrec ⟨hwx2.1, hwx2.2.1, hwx2.2.2⟩ ⟨hwx4.1, hwx4.2.1, hwx4.2.2⟩ eq15) qs_X6_169 (by omega) (by omega) rfl rfl rfl rfl (Nat.le_of_ble_eq_true rfl) ⟨Nat.zero_le _, Nat.zero_le _⟩ dX6_write_54 ?_
    obtain ⟨rfl, rfl⟩ := Prod.mk.inj (Option.some.inj h)
    exact g_reti C hr dX6_write_57

set_option maxHeartbeats 2000000 in
set_option maxRecDepth 20000 in
theorem kX6_write_body {l : Launch} {D : va_G} {g : gT} {N : Nat} {ad ln : Nat → Nat} (hN : 193 ≤ N) {cp : Nat} (hcp : g_cap ln cp) {rec : gM → Int32 → Nat → Nat → Int32 → Nat → Nat → Option (gM × Int32)} {fu : Nat} (hrec : ∀ {A A' : gM} {x1 : Int32} {x2 : Nat} {wx2 : Nat} {x3 : Int32} {x4 : Nat} {wx4 : Nat} {r : Int32} (_ : (x2 < N ∧ g_isI x2 = true ∧ g_ln ln x2 = wx2)) (_ : (x4 < N ∧ g_isI x4 = true ∧ g_ln ln x4 = wx4)), rec A x1 x2 wx2 x3 x4 wx4 = some (A', r) → gKi l yX6_write cX6_write 7 (some .int) (3 + 1 * fu) D g N ad ln A [gr 183, gi x1, gr x2, gi x3, gr x4] A' r) {A A' : gM} {x1 : Int32} {x2 : Nat} {wx2 : Nat} {x3 : Int32} {x4 : Nat} {wx4 : Nat} {r : Int32} (hwx2 : (x2 < N ∧ g_isI x2 = true ∧ g_ln ln x2 = wx2)) (hwx4 : (x4 < N ∧ g_isI x4 = true ∧ g_ln ln x4 = wx4)) (h : mX6_write_body cp rec A x1 x2 wx2 x3 x4 wx4 = some (A', r)) : gKi l yX6_write cX6_write 7 (some .int) ((3 + 1 * fu + 1)) D g N ad ln A [gr 183, gi x1, gr x2, gi x3, gr x4] A' r := by
  refine g_meti (by decide) (Nat.le_of_ble_eq_true rfl) ?_
  intro p e s m args below meth c C hr
  refine g_sub [0, 1, 2, 3, 4] rfl ?_
  exact wX6_write_b0 hN hcp hrec C hr hwx2 hwx4 h
set_option maxHeartbeats 2000000 in
set_option maxRecDepth 20000 in
theorem kX6_write {l : Launch} {D : va_G} {g : gT} {N : Nat} {ad ln : Nat → Nat} (hN : 193 ≤ N) {cp : Nat} (hcp : g_cap ln cp) : ∀ (f : Nat) {A A' : gM} {x1 : Int32} {x2 : Nat} {wx2 : Nat} {x3 : Int32} {x4 : Nat} {wx4 : Nat} {r : Int32} (_ : (x2 < N ∧ g_isI x2 = true ∧ g_ln ln x2 = wx2)) (_ : (x4 < N ∧ g_isI x4 = true ∧ g_ln ln x4 = wx4)), mX6_write cp f A x1 x2 wx2 x3 x4 wx4 = some (A', r) → gKi l yX6_write cX6_write 7 (some .int) (3 + 1 * f) D g N ad ln A [gr 183, gi x1, gr x2, gi x3, gr x4] A' r
  | 0, A, A', x1, x2, wx2, x3, x4, wx4, r, hwx2, hwx4, h => by cases h
  | f + 1, A, A', x1, x2, wx2, x3, x4, wx4, r, hwx2, hwx4, h => kX6_write_body hN hcp (fun hwx2 hwx4 h => kX6_write hN hcp f hwx2 hwx4 h) hwx2 hwx4 h
def mX6_deep_b43 (cp : Nat) (rec : gM → Int32 → Option (gM × Int32)) (A : gM) (s0 : Int32) : Option (gM × Int32) :=
  some (A, s0)
def mX6_deep_b0 (cp : Nat) (rec : gM → Int32 → Option (gM × Int32)) (A : gM) (x1 : Int32) : Option (gM × Int32) :=
  (mX6_now cp A x1).bind fun q1 =>
  (mX6_isPair cp q1.1 q1.2).bind fun q2 =>
  if q2.2 = 0 then
  mX6_deep_b43 cp rec q2.1 1
  else
  if g_in q1.2 cp = true then
  (rec q2.1 (q2.1 186 q1.2.toNatClampNeg)).bind fun q5 =>
  if g_in q1.2 cp = true then
  (rec q5.1 (q5.1 187 q1.2.toNatClampNeg)).bind fun q7 =>
  mX6_deep_b43 cp rec q7.1 (1 + (if q5.2 < q7.2 then q7.2 else q5.2))
  else none
  else none
def mX6_deep_body (cp : Nat) (rec : gM → Int32 → Option (gM × Int32)) (A : gM) (x1 : Int32) : Option (gM × Int32) := mX6_deep_b0 cp rec A x1
def mX6_deep (cp : Nat) : Nat → gM → Int32 → Option (gM × Int32)
  | 0 => fun _ _ => none
  | f + 1 => mX6_deep_body cp (mX6_deep cp f)
set_option maxHeartbeats 2000000 in
set_option maxRecDepth 20000 in
theorem wX6_deep_b43 (hN : 193 ≤ N) {cp : Nat} (hcp : g_cap ln cp) {rec : gM → Int32 → Option (gM × Int32)} {fu : Nat} (hrec : ∀ {A A' : gM} {x1 : Int32} {r : Int32}, rec A x1 = some (A', r) → gKi l yX6_deep cX6_deep 3 (some .int) (3 + 1 * fu) D g N ad ln A [gr 183, gi x1] A' r) {A0 A' : gM} {r : Int32} (C : gC p R s m args meth c cX6_deep RX6 3 D g (va_A (gw g ad ln A0 N) s.heap.size) (3 + 1 * fu + 1)) (hr : meth.sig.returnType = some .int)  {A : gM} {s0 : Int32} (h : mX6_deep_b43 cp rec A s0 = some (A', r)) : gJ p l e R s m args below meth c (gEi below D g N ad ln A0 A' r args s) 3 D g (va_A (gw g ad ln A0 N) s.heap.size) N ad ln A [] 0 0 43 [gi s0] := by
  unfold mX6_deep_b43 at h
  obtain ⟨rfl, rfl⟩ := Prod.mk.inj (Option.some.inj h)
  exact g_reti C hr dX6_deep_43

set_option maxHeartbeats 2000000 in
set_option maxRecDepth 20000 in
theorem wX6_deep_b0 (hN : 193 ≤ N) {cp : Nat} (hcp : g_cap ln cp) {rec : gM → Int32 → Option (gM × Int32)} {fu : Nat} (hrec : ∀ {A A' : gM} {x1 : Int32} {r : Int32}, rec A x1 = some (A', r) → gKi l yX6_deep cX6_deep 3 (some .int) (3 + 1 * fu) D g N ad ln A [gr 183, gi x1] A' r) {A0 A' : gM} {r : Int32} (C : gC p R s m args meth c cX6_deep RX6 3 D g (va_A (gw g ad ln A0 N) s.heap.size) (3 + 1 * fu + 1)) (hr : meth.sig.returnType = some .int)  {A : gM} {x1 : Int32} (h : mX6_deep_b0 cp rec A x1 = some (A', r)) : gJ p l e R s m args below meth c (gEi below D g N ad ln A0 A' r args s) 3 D g (va_A (gw g ad ln A0 N) s.heap.size) N ad ln A [(0, gr 183), (1, gi x1)] 0 0 0 [] := by
  unfold mX6_deep_b0 at h
  refine g_aload_n C 0 dX6_deep_0 rfl ?_
  refine g_iload_n C 1 dX6_deep_1 rfl ?_
  obtain ⟨q1, eq1, h⟩ := g_bd h
  refine g_calliV C 183 [gi x1] (kX6_now hN hcp eq1) qs_X6_89 (by omega) (by omega) rfl rfl rfl rfl (Nat.le_of_ble_eq_true rfl) ⟨Nat.zero_le _, Nat.zero_le _⟩ dX6_deep_2 ?_
  refine g_istore_n C dX6_deep_5 (by decide) rfl ?_
  refine g_aload_n C 1 dX6_deep_6 rfl ?_
  refine g_iload_n C 0 dX6_deep_7 rfl ?_
  obtain ⟨q2, eq2, h⟩ := g_bd h
  refine g_calliV C 183 [gi q1.2] (kX6_isPair hN hcp eq2) qs_X6_92 (by omega) (by omega) rfl rfl rfl rfl (Nat.le_of_ble_eq_true rfl) ⟨Nat.zero_le _, Nat.zero_le _⟩ dX6_deep_8 ?_
  refine g_if_eq C dX6_deep_11 (tgt := 42) (by decide) (fun c3 => ?_) (fun c3 => ?_)
  · have h := g_tt c3 h
    refine g_iconst (v := 1) C dX6_deep_42 (by decide) ?_
    refine g_sub [] rfl ?_
    exact wX6_deep_b43 hN hcp hrec C hr h
  · have h := g_ff c3 h
    refine g_iconst (v := 1) C dX6_deep_14 (by decide) ?_
    refine g_aload_n C 1 dX6_deep_15 rfl ?_
    refine g_aload_n C 1 dX6_deep_16 rfl ?_
    refine g_get (v := gr 186) C 183 5 (by omega) rfl rfl gu_6 (by decide) qf_X6_16 rfl dX6_deep_17 ?_
    refine g_iload_n C 0 dX6_deep_20 rfl ?_
    obtain ⟨hg4, h⟩ := g_gd h
    refine g_iald C 186 (by omega) rfl (show g_ln ln 186 = cp from hcp.2.1) hg4 dX6_deep_21 ?_
    obtain ⟨q5, eq5, h⟩ := g_bd h
    refine g_calliV C 183 [gi (q2.1 186 q1.2.toNatClampNeg)] (hrec eq5) qs_X6_176 (by omega) (by omega) rfl rfl rfl rfl (Nat.le_of_ble_eq_true rfl) ⟨Nat.zero_le _, Nat.zero_le _⟩ dX6_deep_22 ?_
    refine g_aload_n C 1 dX6_deep_25 rfl ?_
    refine g_aload_n C 1 dX6_deep_26 rfl ?_
    refine g_get (v := gr 187) C 183 6 (by omega) rfl rfl gu_6 (by decide) qf_X6_19 rfl dX6_deep_27 ?_
    refine g_iload_n C 0 dX6_deep_30 rfl ?_
    obtain ⟨hg6, h⟩ := g_gd h
    refine g_iald C 187 (by omega) rfl (show g_ln ln 187 = cp from hcp.2.2.1) hg6 dX6_deep_31 ?_
    obtain ⟨q7, eq7, h⟩ := g_bd h
    refine g_calliV C 183 [gi (q5.1 187 q1.2.toNatClampNeg)] (hrec eq7) qs_X6_176 (by omega) (by omega) rfl rfl rfl rfl (Nat.le_of_ble_eq_true rfl) ⟨Nat.zero_le _, Nat.zero_le _⟩ dX6_deep_32 ?_
    refine g_mmax C qm_X6_179 (by omega) (Nat.le_of_ble_eq_true rfl) ⟨Nat.zero_le _, Nat.zero_le _⟩ dX6_deep_35 ?_
    refine g_iadd C dX6_deep_38 ?_
    refine g_goto C dX6_deep_39 (tgt := 43) (by decide) ?_
    refine g_sub [] rfl ?_
    exact wX6_deep_b43 hN hcp hrec C hr h

set_option maxHeartbeats 2000000 in
set_option maxRecDepth 20000 in
theorem kX6_deep_body {l : Launch} {D : va_G} {g : gT} {N : Nat} {ad ln : Nat → Nat} (hN : 193 ≤ N) {cp : Nat} (hcp : g_cap ln cp) {rec : gM → Int32 → Option (gM × Int32)} {fu : Nat} (hrec : ∀ {A A' : gM} {x1 : Int32} {r : Int32}, rec A x1 = some (A', r) → gKi l yX6_deep cX6_deep 3 (some .int) (3 + 1 * fu) D g N ad ln A [gr 183, gi x1] A' r) {A A' : gM} {x1 : Int32} {r : Int32} (h : mX6_deep_body cp rec A x1 = some (A', r)) : gKi l yX6_deep cX6_deep 3 (some .int) ((3 + 1 * fu + 1)) D g N ad ln A [gr 183, gi x1] A' r := by
  refine g_meti (by decide) (Nat.le_of_ble_eq_true rfl) ?_
  intro p e s m args below meth c C hr
  refine g_sub [0, 1] rfl ?_
  exact wX6_deep_b0 hN hcp hrec C hr h
set_option maxHeartbeats 2000000 in
set_option maxRecDepth 20000 in
theorem kX6_deep {l : Launch} {D : va_G} {g : gT} {N : Nat} {ad ln : Nat → Nat} (hN : 193 ≤ N) {cp : Nat} (hcp : g_cap ln cp) : ∀ (f : Nat) {A A' : gM} {x1 : Int32} {r : Int32}, mX6_deep cp f A x1 = some (A', r) → gKi l yX6_deep cX6_deep 3 (some .int) (3 + 1 * f) D g N ad ln A [gr 183, gi x1] A' r
  | 0, A, A', x1, r, h => by cases h
  | f + 1, A, A', x1, r, h => kX6_deep_body hN hcp (fun h => kX6_deep hN hcp f h) h
def mX6_depth_b38 (cp : Nat) (rec : gM → Int32 → Option (gM × Int32)) (K4 : gM → Int32 → Int32 → Int32 → Option (gM × Int32)) (A : gM) (x1 : Int32) (x2 : Int32) (x3 : Int32) : Option (gM × Int32) :=
  g_let (x3 + 1) fun v1 =>
  K4 A x1 x2 v1
def mX6_depth_b4 (cp : Nat) (rec : gM → Int32 → Option (gM × Int32)) (K4 : gM → Int32 → Int32 → Int32 → Option (gM × Int32)) (A : gM) (x1 : Int32) (x2 : Int32) (x3 : Int32) : Option (gM × Int32) :=
  if 3 ≤ x3 then
  some (A, (x2 + 1))
  else
  (mX6_pa cp A x1 (1 + x3)).bind fun q2 =>
  if q2.2 = (-1) then
  mX6_depth_b38 cp rec K4 q2.1 x1 x2 x3
  else
  (mX6_pa cp q2.1 x1 (1 + x3)).bind fun q4 =>
  (rec q4.1 q4.2).bind fun q5 =>
  g_let (if x2 < q5.2 then q5.2 else x2) fun v6 =>
  mX6_depth_b38 cp rec K4 q5.1 x1 v6 x3
def mX6_depth_L4 (cp : Nat) (rec : gM → Int32 → Option (gM × Int32)) : Nat → gM → Int32 → Int32 → Int32 → Option (gM × Int32)
  | 0 => fun _ _ _ _ => none
  | f + 1 => mX6_depth_b4 cp rec (mX6_depth_L4 cp rec f)
def mX6_depth_b0 (cp : Nat) (rec : gM → Int32 → Option (gM × Int32)) (A : gM) (x1 : Int32) : Option (gM × Int32) :=
  mX6_depth_L4 cp rec gF A x1 0 0
def mX6_depth_body (cp : Nat) (rec : gM → Int32 → Option (gM × Int32)) (A : gM) (x1 : Int32) : Option (gM × Int32) := mX6_depth_b0 cp rec A x1
def mX6_depth (cp : Nat) : Nat → gM → Int32 → Option (gM × Int32)
  | 0 => fun _ _ => none
  | f + 1 => mX6_depth_body cp (mX6_depth cp f)
set_option maxHeartbeats 2000000 in
set_option maxRecDepth 20000 in
theorem wX6_depth_b38 (hN : 193 ≤ N) {cp : Nat} (hcp : g_cap ln cp) {rec : gM → Int32 → Option (gM × Int32)} {fu : Nat} (hrec : ∀ {A A' : gM} {x1 : Int32} {r : Int32}, rec A x1 = some (A', r) → gKi l yX6_depth cX6_depth 4 (some .int) (3 + 1 * fu) D g N ad ln A [gr 183, gi x1] A' r) {A0 A' : gM} {r : Int32} (C : gC p R s m args meth c cX6_depth RX6 4 D g (va_A (gw g ad ln A0 N) s.heap.size) (3 + 1 * fu + 1)) (hr : meth.sig.returnType = some .int) {K4 : gM → Int32 → Int32 → Int32 → Option (gM × Int32)} (hK4 : ∀ {A : gM} {x1 : Int32} {x2 : Int32} {x3 : Int32}, K4 A x1 x2 x3 = some (A', r) → gJ p l e R s m args below meth c (gEi below D g N ad ln A0 A' r args s) 4 D g (va_A (gw g ad ln A0 N) s.heap.size) N ad ln A [(0, gr 183), (1, gi x1), (2, gi x2), (3, gi x3)] 0 0 4 []) {A : gM} {x1 : Int32} {x2 : Int32} {x3 : Int32} (h : mX6_depth_b38 cp rec K4 A x1 x2 x3 = some (A', r)) : gJ p l e R s m args below meth c (gEi below D g N ad ln A0 A' r args s) 4 D g (va_A (gw g ad ln A0 N) s.heap.size) N ad ln A [(0, gr 183), (1, gi x1), (2, gi x2), (3, gi x3)] 0 0 38 [] := by
  unfold mX6_depth_b38 at h
  obtain ⟨v1, ev1, h⟩ := g_lt h
  refine g_iinc C 3 dX6_depth_38 rfl ev1 (by decide) rfl ?_
  refine g_goto C dX6_depth_41 (tgt := 4) (by decide) ?_
  refine g_sub [1, 2, 3, 0] rfl ?_
  exact hK4 h

set_option maxHeartbeats 2000000 in
set_option maxRecDepth 20000 in
theorem wX6_depth_b4 (hN : 193 ≤ N) {cp : Nat} (hcp : g_cap ln cp) {rec : gM → Int32 → Option (gM × Int32)} {fu : Nat} (hrec : ∀ {A A' : gM} {x1 : Int32} {r : Int32}, rec A x1 = some (A', r) → gKi l yX6_depth cX6_depth 4 (some .int) (3 + 1 * fu) D g N ad ln A [gr 183, gi x1] A' r) {A0 A' : gM} {r : Int32} (C : gC p R s m args meth c cX6_depth RX6 4 D g (va_A (gw g ad ln A0 N) s.heap.size) (3 + 1 * fu + 1)) (hr : meth.sig.returnType = some .int) {K4 : gM → Int32 → Int32 → Int32 → Option (gM × Int32)} (hK4 : ∀ {A : gM} {x1 : Int32} {x2 : Int32} {x3 : Int32}, K4 A x1 x2 x3 = some (A', r) → gJ p l e R s m args below meth c (gEi below D g N ad ln A0 A' r args s) 4 D g (va_A (gw g ad ln A0 N) s.heap.size) N ad ln A [(0, gr 183), (1, gi x1), (2, gi x2), (3, gi x3)] 0 0 4 []) {A : gM} {x1 : Int32} {x2 : Int32} {x3 : Int32} (h : mX6_depth_b4 cp rec K4 A x1 x2 x3 = some (A', r)) : gJ p l e R s m args below meth c (gEi below D g N ad ln A0 A' r args s) 4 D g (va_A (gw g ad ln A0 N) s.heap.size) N ad ln A [(0, gr 183), (1, gi x1), (2, gi x2), (3, gi x3)] 0 0 4 [] := by
  unfold mX6_depth_b4 at h
  refine g_iload_n C 3 dX6_depth_4 rfl ?_
  refine g_iconst (v := 3) C dX6_depth_5 (by decide) ?_
  refine g_icmp_ge C dX6_depth_6 (tgt := 44) (by decide) (fun c1 => ?_) (fun c1 => ?_)
  · have h := g_tt c1 h
    refine g_iload_n C 2 dX6_depth_44 rfl ?_
    refine g_iconst (v := 1) C dX6_depth_45 (by decide) ?_
    refine g_iadd C dX6_depth_46 ?_
    obtain ⟨rfl, rfl⟩ := Prod.mk.inj (Option.some.inj h)
    exact g_reti C hr dX6_depth_47
  · have h := g_ff c1 h
    refine g_aload_n C 0 dX6_depth_9 rfl ?_
    refine g_iload_n C 1 dX6_depth_10 rfl ?_
    refine g_iconst (v := 1) C dX6_depth_11 (by decide) ?_
    refine g_iload_n C 3 dX6_depth_12 rfl ?_
    refine g_iadd C dX6_depth_13 ?_
    obtain ⟨q2, eq2, h⟩ := g_bd h
    refine g_calliV C 183 [gi x1, gi (1 + x3)] (kX6_pa hN hcp eq2) qs_X6_46 (by omega) (by omega) rfl rfl rfl rfl (Nat.le_of_ble_eq_true rfl) ⟨Nat.zero_le _, Nat.zero_le _⟩ dX6_depth_14 ?_
    refine g_iconst (v := (-1)) C dX6_depth_17 (by decide) ?_
    refine g_icmp_eq C dX6_depth_18 (tgt := 38) (by decide) (fun c3 => ?_) (fun c3 => ?_)
    · have h := g_tt c3 h
      refine g_sub [0, 1, 2, 3] rfl ?_
      exact wX6_depth_b38 hN hcp hrec C hr hK4 h
    · have h := g_ff c3 h
      refine g_iload_n C 2 dX6_depth_21 rfl ?_
      refine g_aload_n C 0 dX6_depth_22 rfl ?_
      refine g_aload_n C 0 dX6_depth_23 rfl ?_
      refine g_iload_n C 1 dX6_depth_24 rfl ?_
      refine g_iconst (v := 1) C dX6_depth_25 (by decide) ?_
      refine g_iload_n C 3 dX6_depth_26 rfl ?_
      refine g_iadd C dX6_depth_27 ?_
      obtain ⟨q4, eq4, h⟩ := g_bd h
      refine g_calliV C 183 [gi x1, gi (1 + x3)] (kX6_pa hN hcp eq4) qs_X6_46 (by omega) (by omega) rfl rfl rfl rfl (Nat.le_of_ble_eq_true rfl) ⟨Nat.zero_le _, Nat.zero_le _⟩ dX6_depth_28 ?_
      obtain ⟨q5, eq5, h⟩ := g_bd h
      refine g_calliV C 183 [gi q4.2] (hrec eq5) qs_X6_182 (by omega) (by omega) rfl rfl rfl rfl (Nat.le_of_ble_eq_true rfl) ⟨Nat.zero_le _, Nat.zero_le _⟩ dX6_depth_31 ?_
      refine g_mmax C qm_X6_179 (by omega) (Nat.le_of_ble_eq_true rfl) ⟨Nat.zero_le _, Nat.zero_le _⟩ dX6_depth_34 ?_
      obtain ⟨v6, ev6, h⟩ := g_lt h
      refine g_topi ev6 ?_
      refine g_istore_n C dX6_depth_37 (by decide) rfl ?_
      refine g_sub [1, 2, 0, 3] rfl ?_
      exact wX6_depth_b38 hN hcp hrec C hr hK4 h

set_option maxHeartbeats 2000000 in
set_option maxRecDepth 20000 in
theorem wX6_depth_L4 (hN : 193 ≤ N) {cp : Nat} (hcp : g_cap ln cp) {rec : gM → Int32 → Option (gM × Int32)} {fu : Nat} (hrec : ∀ {A A' : gM} {x1 : Int32} {r : Int32}, rec A x1 = some (A', r) → gKi l yX6_depth cX6_depth 4 (some .int) (3 + 1 * fu) D g N ad ln A [gr 183, gi x1] A' r) {A0 A' : gM} {r : Int32} (C : gC p R s m args meth c cX6_depth RX6 4 D g (va_A (gw g ad ln A0 N) s.heap.size) (3 + 1 * fu + 1)) (hr : meth.sig.returnType = some .int)  : ∀ (f : Nat) {A : gM} {x1 : Int32} {x2 : Int32} {x3 : Int32}, mX6_depth_L4 cp rec f A x1 x2 x3 = some (A', r) → gJ p l e R s m args below meth c (gEi below D g N ad ln A0 A' r args s) 4 D g (va_A (gw g ad ln A0 N) s.heap.size) N ad ln A [(0, gr 183), (1, gi x1), (2, gi x2), (3, gi x3)] 0 0 4 []
  | 0, A, x1, x2, x3, h => by cases h
  | f + 1, A, x1, x2, x3, h => wX6_depth_b4 hN hcp hrec C hr (fun {A} {x1} {x2} {x3} h => wX6_depth_L4 hN hcp hrec C hr f h) h
set_option maxHeartbeats 2000000 in
set_option maxRecDepth 20000 in
theorem wX6_depth_b0 (hN : 193 ≤ N) {cp : Nat} (hcp : g_cap ln cp) {rec : gM → Int32 → Option (gM × Int32)} {fu : Nat} (hrec : ∀ {A A' : gM} {x1 : Int32} {r : Int32}, rec A x1 = some (A', r) → gKi l yX6_depth cX6_depth 4 (some .int) (3 + 1 * fu) D g N ad ln A [gr 183, gi x1] A' r) {A0 A' : gM} {r : Int32} (C : gC p R s m args meth c cX6_depth RX6 4 D g (va_A (gw g ad ln A0 N) s.heap.size) (3 + 1 * fu + 1)) (hr : meth.sig.returnType = some .int)  {A : gM} {x1 : Int32} (h : mX6_depth_b0 cp rec A x1 = some (A', r)) : gJ p l e R s m args below meth c (gEi below D g N ad ln A0 A' r args s) 4 D g (va_A (gw g ad ln A0 N) s.heap.size) N ad ln A [(0, gr 183), (1, gi x1)] 0 0 0 [] := by
  unfold mX6_depth_b0 at h
  refine g_iconst (v := 0) C dX6_depth_0 (by decide) ?_
  refine g_istore_n C dX6_depth_1 (by decide) rfl ?_
  refine g_iconst (v := 0) C dX6_depth_2 (by decide) ?_
  refine g_istore_n C dX6_depth_3 (by decide) rfl ?_
  refine g_sub [2, 3, 1, 0] rfl ?_
  exact wX6_depth_L4 hN hcp hrec C hr gF h

set_option maxHeartbeats 2000000 in
set_option maxRecDepth 20000 in
theorem kX6_depth_body {l : Launch} {D : va_G} {g : gT} {N : Nat} {ad ln : Nat → Nat} (hN : 193 ≤ N) {cp : Nat} (hcp : g_cap ln cp) {rec : gM → Int32 → Option (gM × Int32)} {fu : Nat} (hrec : ∀ {A A' : gM} {x1 : Int32} {r : Int32}, rec A x1 = some (A', r) → gKi l yX6_depth cX6_depth 4 (some .int) (3 + 1 * fu) D g N ad ln A [gr 183, gi x1] A' r) {A A' : gM} {x1 : Int32} {r : Int32} (h : mX6_depth_body cp rec A x1 = some (A', r)) : gKi l yX6_depth cX6_depth 4 (some .int) ((3 + 1 * fu + 1)) D g N ad ln A [gr 183, gi x1] A' r := by
  refine g_meti (by decide) (Nat.le_of_ble_eq_true rfl) ?_
  intro p e s m args below meth c C hr
  refine g_sub [0, 1] rfl ?_
  exact wX6_depth_b0 hN hcp hrec C hr h
set_option maxHeartbeats 2000000 in
set_option maxRecDepth 20000 in
theorem kX6_depth {l : Launch} {D : va_G} {g : gT} {N : Nat} {ad ln : Nat → Nat} (hN : 193 ≤ N) {cp : Nat} (hcp : g_cap ln cp) : ∀ (f : Nat) {A A' : gM} {x1 : Int32} {r : Int32}, mX6_depth cp f A x1 = some (A', r) → gKi l yX6_depth cX6_depth 4 (some .int) (3 + 1 * f) D g N ad ln A [gr 183, gi x1] A' r
  | 0, A, A', x1, r, h => by cases h
  | f + 1, A, A', x1, r, h => kX6_depth_body hN hcp (fun h => kX6_depth hN hcp f h) h
def mX6_behind_b31 (cp : Nat) (rec : gM → Nat → Nat → Int32 → Option (gM × Int32)) (A : gM) (s0 : Int32) : Option (gM × Int32) :=
  some (A, s0)
def mX6_behind_b14 (cp : Nat) (rec : gM → Nat → Nat → Int32 → Option (gM × Int32)) (A : gM) (x0 : Nat) (wx0 : Nat) (x1 : Int32) : Option (gM × Int32) :=
  (rec A x0 wx0 (x1 + 1)).bind fun q1 =>
  (rec q1.1 x0 wx0 q1.2).bind fun q2 =>
  mX6_behind_b31 cp rec q2.1 q2.2
def mX6_behind_b0 (cp : Nat) (rec : gM → Nat → Nat → Int32 → Option (gM × Int32)) (A : gM) (x0 : Nat) (wx0 : Nat) (x1 : Int32) : Option (gM × Int32) :=
  if g_in x1 wx0 = true then
  if (A x0 x1.toNatClampNeg) = 2 then
  mX6_behind_b14 cp rec A x0 wx0 x1
  else
  if g_in x1 wx0 = true then
  if (A x0 x1.toNatClampNeg) = 3 then
  mX6_behind_b14 cp rec A x0 wx0 x1
  else
  mX6_behind_b31 cp rec A (x1 + 1)
  else none
  else none
def mX6_behind_body (cp : Nat) (rec : gM → Nat → Nat → Int32 → Option (gM × Int32)) (A : gM) (x0 : Nat) (wx0 : Nat) (x1 : Int32) : Option (gM × Int32) := mX6_behind_b0 cp rec A x0 wx0 x1
def mX6_behind (cp : Nat) : Nat → gM → Nat → Nat → Int32 → Option (gM × Int32)
  | 0 => fun _ _ _ _ => none
  | f + 1 => mX6_behind_body cp (mX6_behind cp f)
set_option maxHeartbeats 2000000 in
set_option maxRecDepth 20000 in
theorem wX6_behind_b31 (hN : 193 ≤ N) {cp : Nat} (hcp : g_cap ln cp) {rec : gM → Nat → Nat → Int32 → Option (gM × Int32)} {fu : Nat} (hrec : ∀ {A A' : gM} {x0 : Nat} {wx0 : Nat} {x1 : Int32} {r : Int32} (_ : (x0 < N ∧ g_isI x0 = true ∧ g_ln ln x0 = wx0)), rec A x0 wx0 x1 = some (A', r) → gKi l yX6_behind cX6_behind 2 (some .int) (3 + 1 * fu) D g N ad ln A [gr x0, gi x1] A' r) {A0 A' : gM} {r : Int32} (C : gC p R s m args meth c cX6_behind RX6 2 D g (va_A (gw g ad ln A0 N) s.heap.size) (3 + 1 * fu + 1)) (hr : meth.sig.returnType = some .int)  {A : gM} {s0 : Int32} (h : mX6_behind_b31 cp rec A s0 = some (A', r)) : gJ p l e R s m args below meth c (gEi below D g N ad ln A0 A' r args s) 2 D g (va_A (gw g ad ln A0 N) s.heap.size) N ad ln A [] 0 0 31 [gi s0] := by
  unfold mX6_behind_b31 at h
  obtain ⟨rfl, rfl⟩ := Prod.mk.inj (Option.some.inj h)
  exact g_reti C hr dX6_behind_31

set_option maxHeartbeats 2000000 in
set_option maxRecDepth 20000 in
theorem wX6_behind_b14 (hN : 193 ≤ N) {cp : Nat} (hcp : g_cap ln cp) {rec : gM → Nat → Nat → Int32 → Option (gM × Int32)} {fu : Nat} (hrec : ∀ {A A' : gM} {x0 : Nat} {wx0 : Nat} {x1 : Int32} {r : Int32} (_ : (x0 < N ∧ g_isI x0 = true ∧ g_ln ln x0 = wx0)), rec A x0 wx0 x1 = some (A', r) → gKi l yX6_behind cX6_behind 2 (some .int) (3 + 1 * fu) D g N ad ln A [gr x0, gi x1] A' r) {A0 A' : gM} {r : Int32} (C : gC p R s m args meth c cX6_behind RX6 2 D g (va_A (gw g ad ln A0 N) s.heap.size) (3 + 1 * fu + 1)) (hr : meth.sig.returnType = some .int)  {A : gM} {x0 : Nat} {wx0 : Nat} {x1 : Int32} (hwx0 : (x0 < N ∧ g_isI x0 = true ∧ g_ln ln x0 = wx0)) (h : mX6_behind_b14 cp rec A x0 wx0 x1 = some (A', r)) : gJ p l e R s m args below meth c (gEi below D g N ad ln A0 A' r args s) 2 D g (va_A (gw g ad ln A0 N) s.heap.size) N ad ln A [(0, gr x0), (1, gi x1)] 0 0 14 [] := by
  unfold mX6_behind_b14 at h
  refine g_aload_n C 0 dX6_behind_14 rfl ?_
  refine g_aload_n C 0 dX6_behind_15 rfl ?_
  refine g_iload_n C 1 dX6_behind_16 rfl ?_
  refine g_iconst (v := 1) C dX6_behind_17 (by decide) ?_
  refine g_iadd C dX6_behind_18 ?_
  obtain ⟨q1, eq1, h⟩ := g_bd h
  refine g_calliS C [gr x0, gi (x1 + 1)] (hrec ⟨hwx0.1, hwx0.2.1, hwx0.2.2⟩ eq1) qs_X6_198 (by omega) rfl rfl (Nat.le_of_ble_eq_true rfl) ⟨Nat.zero_le _, Nat.zero_le _⟩ dX6_behind_19 ?_
  obtain ⟨q2, eq2, h⟩ := g_bd h
  refine g_calliS C [gr x0, gi q1.2] (hrec ⟨hwx0.1, hwx0.2.1, hwx0.2.2⟩ eq2) qs_X6_198 (by omega) rfl rfl (Nat.le_of_ble_eq_true rfl) ⟨Nat.zero_le _, Nat.zero_le _⟩ dX6_behind_22 ?_
  refine g_goto C dX6_behind_25 (tgt := 31) (by decide) ?_
  refine g_sub [] rfl ?_
  exact wX6_behind_b31 hN hcp hrec C hr h

set_option maxHeartbeats 2000000 in
set_option maxRecDepth 20000 in
theorem wX6_behind_b0 (hN : 193 ≤ N) {cp : Nat} (hcp : g_cap ln cp) {rec : gM → Nat → Nat → Int32 → Option (gM × Int32)} {fu : Nat} (hrec : ∀ {A A' : gM} {x0 : Nat} {wx0 : Nat} {x1 : Int32} {r : Int32} (_ : (x0 < N ∧ g_isI x0 = true ∧ g_ln ln x0 = wx0)), rec A x0 wx0 x1 = some (A', r) → gKi l yX6_behind cX6_behind 2 (some .int) (3 + 1 * fu) D g N ad ln A [gr x0, gi x1] A' r) {A0 A' : gM} {r : Int32} (C : gC p R s m args meth c cX6_behind RX6 2 D g (va_A (gw g ad ln A0 N) s.heap.size) (3 + 1 * fu + 1)) (hr : meth.sig.returnType = some .int)  {A : gM} {x0 : Nat} {wx0 : Nat} {x1 : Int32} (hwx0 : (x0 < N ∧ g_isI x0 = true ∧ g_ln ln x0 = wx0)) (h : mX6_behind_b0 cp rec A x0 wx0 x1 = some (A', r)) : gJ p l e R s m args below meth c (gEi below D g N ad ln A0 A' r args s) 2 D g (va_A (gw g ad ln A0 N) s.heap.size) N ad ln A [(0, gr x0), (1, gi x1)] 0 0 0 [] := by
  unfold mX6_behind_b0 at h
  refine g_aload_n C 0 dX6_behind_0 rfl ?_
  refine g_iload_n C 1 dX6_behind_1 rfl ?_
  obtain ⟨hg1, h⟩ := g_gd h
  refine g_iald C x0 hwx0.1 hwx0.2.1 hwx0.2.2 hg1 dX6_behind_2 ?_
  refine g_iconst (v := 2) C dX6_behind_3 (by decide) ?_
  refine g_icmp_eq C dX6_behind_4 (tgt := 14) (by decide) (fun c2 => ?_) (fun c2 => ?_)
  · have h := g_tt c2 h
    refine g_sub [0, 1] rfl ?_
    exact wX6_behind_b14 hN hcp hrec C hr ⟨hwx0.1, hwx0.2.1, hwx0.2.2⟩ h
  · have h := g_ff c2 h
    refine g_aload_n C 0 dX6_behind_7 rfl ?_
    refine g_iload_n C 1 dX6_behind_8 rfl ?_
    obtain ⟨hg3, h⟩ := g_gd h
    refine g_iald C x0 hwx0.1 hwx0.2.1 hwx0.2.2 hg3 dX6_behind_9 ?_
    refine g_iconst (v := 3) C dX6_behind_10 (by decide) ?_
    refine g_icmp_ne C dX6_behind_11 (tgt := 28) (by decide) (fun c4 => ?_) (fun c4 => ?_)
    · have h := g_ff c4 h
      refine g_iload_n C 1 dX6_behind_28 rfl ?_
      refine g_iconst (v := 1) C dX6_behind_29 (by decide) ?_
      refine g_iadd C dX6_behind_30 ?_
      refine g_sub [] rfl ?_
      exact wX6_behind_b31 hN hcp hrec C hr h
    · have h := g_tt c4 h
      refine g_sub [0, 1] rfl ?_
      exact wX6_behind_b14 hN hcp hrec C hr ⟨hwx0.1, hwx0.2.1, hwx0.2.2⟩ h

set_option maxHeartbeats 2000000 in
set_option maxRecDepth 20000 in
theorem kX6_behind_body {l : Launch} {D : va_G} {g : gT} {N : Nat} {ad ln : Nat → Nat} (hN : 193 ≤ N) {cp : Nat} (hcp : g_cap ln cp) {rec : gM → Nat → Nat → Int32 → Option (gM × Int32)} {fu : Nat} (hrec : ∀ {A A' : gM} {x0 : Nat} {wx0 : Nat} {x1 : Int32} {r : Int32} (_ : (x0 < N ∧ g_isI x0 = true ∧ g_ln ln x0 = wx0)), rec A x0 wx0 x1 = some (A', r) → gKi l yX6_behind cX6_behind 2 (some .int) (3 + 1 * fu) D g N ad ln A [gr x0, gi x1] A' r) {A A' : gM} {x0 : Nat} {wx0 : Nat} {x1 : Int32} {r : Int32} (hwx0 : (x0 < N ∧ g_isI x0 = true ∧ g_ln ln x0 = wx0)) (h : mX6_behind_body cp rec A x0 wx0 x1 = some (A', r)) : gKi l yX6_behind cX6_behind 2 (some .int) ((3 + 1 * fu + 1)) D g N ad ln A [gr x0, gi x1] A' r := by
  refine g_meti (by decide) (Nat.le_of_ble_eq_true rfl) ?_
  intro p e s m args below meth c C hr
  refine g_sub [0, 1] rfl ?_
  exact wX6_behind_b0 hN hcp hrec C hr hwx0 h
set_option maxHeartbeats 2000000 in
set_option maxRecDepth 20000 in
theorem kX6_behind {l : Launch} {D : va_G} {g : gT} {N : Nat} {ad ln : Nat → Nat} (hN : 193 ≤ N) {cp : Nat} (hcp : g_cap ln cp) : ∀ (f : Nat) {A A' : gM} {x0 : Nat} {wx0 : Nat} {x1 : Int32} {r : Int32} (_ : (x0 < N ∧ g_isI x0 = true ∧ g_ln ln x0 = wx0)), mX6_behind cp f A x0 wx0 x1 = some (A', r) → gKi l yX6_behind cX6_behind 2 (some .int) (3 + 1 * f) D g N ad ln A [gr x0, gi x1] A' r
  | 0, A, A', x0, wx0, x1, r, hwx0, h => by cases h
  | f + 1, A, A', x0, wx0, x1, r, hwx0, h => kX6_behind_body hN hcp (fun hwx0 h => kX6_behind hN hcp f hwx0 h) hwx0 h
def mX6_partTold_b20 (cp : Nat) (A : gM) (s0 : Int32) : Option (gM × Int32) :=
  some (A, s0)
def mX6_partTold_b0 (cp : Nat) (A : gM) (x1 : Int32) (x2 : Int32) : Option (gM × Int32) :=
  if 6 ≤ x2 then
  (mX6_depth cp 45 A x1).bind fun q2 =>
  mX6_partTold_b20 cp q2.1 q2.2
  else
  (mX6_pa cp A x1 x2).bind fun q3 =>
  mX6_partTold_b20 cp q3.1 q3.2
def mX6_partTold (cp : Nat) (A : gM) (x1 : Int32) (x2 : Int32) : Option (gM × Int32) := mX6_partTold_b0 cp A x1 x2
set_option maxHeartbeats 2000000 in
set_option maxRecDepth 20000 in
theorem wX6_partTold_b20 (hN : 193 ≤ N) {cp : Nat} (hcp : g_cap ln cp) {A0 A' : gM} {r : Int32} (C : gC p R s m args meth c cX6_partTold RX6 3 D g (va_A (gw g ad ln A0 N) s.heap.size) 49) (hr : meth.sig.returnType = some .int)  {A : gM} {s0 : Int32} (h : mX6_partTold_b20 cp A s0 = some (A', r)) : gJ p l e R s m args below meth c (gEi below D g N ad ln A0 A' r args s) 3 D g (va_A (gw g ad ln A0 N) s.heap.size) N ad ln A [] 0 0 20 [gi s0] := by
  unfold mX6_partTold_b20 at h
  obtain ⟨rfl, rfl⟩ := Prod.mk.inj (Option.some.inj h)
  exact g_reti C hr dX6_partTold_20

set_option maxHeartbeats 2000000 in
set_option maxRecDepth 20000 in
theorem wX6_partTold_b0 (hN : 193 ≤ N) {cp : Nat} (hcp : g_cap ln cp) {A0 A' : gM} {r : Int32} (C : gC p R s m args meth c cX6_partTold RX6 3 D g (va_A (gw g ad ln A0 N) s.heap.size) 49) (hr : meth.sig.returnType = some .int)  {A : gM} {x1 : Int32} {x2 : Int32} (h : mX6_partTold_b0 cp A x1 x2 = some (A', r)) : gJ p l e R s m args below meth c (gEi below D g N ad ln A0 A' r args s) 3 D g (va_A (gw g ad ln A0 N) s.heap.size) N ad ln A [(0, gr 183), (1, gi x1), (2, gi x2)] 0 0 0 [] := by
  unfold mX6_partTold_b0 at h
  refine g_iload_n C 2 dX6_partTold_0 rfl ?_
  refine g_bipush (v := 6) C dX6_partTold_1 (by decide) ?_
  refine g_icmp_ge C dX6_partTold_3 (tgt := 15) (by decide) (fun c1 => ?_) (fun c1 => ?_)
  · have h := g_tt c1 h
    refine g_aload_n C 0 dX6_partTold_15 rfl ?_
    refine g_iload_n C 1 dX6_partTold_16 rfl ?_
    obtain ⟨q2, eq2, h⟩ := g_bd h
    refine g_calliV C 183 [gi x1] (kX6_depth hN hcp 45 eq2) qs_X6_182 (by omega) (by omega) rfl rfl rfl rfl (Nat.le_of_ble_eq_true rfl) ⟨Nat.zero_le _, Nat.zero_le _⟩ dX6_partTold_17 ?_
    refine g_sub [] rfl ?_
    exact wX6_partTold_b20 hN hcp C hr h
  · have h := g_ff c1 h
    refine g_aload_n C 0 dX6_partTold_6 rfl ?_
    refine g_iload_n C 1 dX6_partTold_7 rfl ?_
    refine g_iload_n C 2 dX6_partTold_8 rfl ?_
    obtain ⟨q3, eq3, h⟩ := g_bd h
    refine g_calliV C 183 [gi x1, gi x2] (kX6_pa hN hcp eq3) qs_X6_46 (by omega) (by omega) rfl rfl rfl rfl (Nat.le_of_ble_eq_true rfl) ⟨Nat.zero_le _, Nat.zero_le _⟩ dX6_partTold_9 ?_
    refine g_goto C dX6_partTold_12 (tgt := 20) (by decide) ?_
    refine g_sub [] rfl ?_
    exact wX6_partTold_b20 hN hcp C hr h

set_option maxHeartbeats 2000000 in
set_option maxRecDepth 20000 in
theorem kX6_partTold {l : Launch} {D : va_G} {g : gT} {N : Nat} {ad ln : Nat → Nat} (hN : 193 ≤ N) {cp : Nat} (hcp : g_cap ln cp) {A A' : gM} {x1 : Int32} {x2 : Int32} {r : Int32} (h : mX6_partTold cp A x1 x2 = some (A', r)) : gKi l yX6_partTold cX6_partTold 3 (some .int) (49) D g N ad ln A [gr 183, gi x1, gi x2] A' r := by
  refine g_meti (by decide) (Nat.le_of_ble_eq_true rfl) ?_
  intro p e s m args below meth c C hr
  refine g_sub [0, 1, 2] rfl ?_
  exact wX6_partTold_b0 hN hcp C hr h
def mX6_part_b37 (cp : Nat) (A : gM) (s0 : Int32) : Option (gM × Int32) :=
  some (A, s0)
def mX6_part_b32 (cp : Nat) (A : gM) : Option (gM × Int32) :=
  (mX6_fail cp A 1).bind fun q1 =>
  mX6_part_b37 cp q1.1 q1.2
def mX6_part_b0 (cp : Nat) (A : gM) (x1 : Int32) (x2 : Int32) : Option (gM × Int32) :=
  g_let (g_up A 183 0 0) fun A1 =>
  (mX6_isPart cp A1 x1).bind fun q2 =>
  if q2.2 = 0 then
  mX6_part_b32 cp q2.1
  else
  (mX6_isIn cp q2.1 x2 0 6).bind fun q4 =>
  if q4.2 = 0 then
  mX6_part_b32 cp q4.1
  else
  (mX6_partTold cp q4.1 x1 x2).bind fun q6 =>
  mX6_part_b37 cp q6.1 q6.2
def mX6_part (cp : Nat) (A : gM) (x1 : Int32) (x2 : Int32) : Option (gM × Int32) := mX6_part_b0 cp A x1 x2
set_option maxHeartbeats 2000000 in
set_option maxRecDepth 20000 in
theorem wX6_part_b37 (hN : 193 ≤ N) {cp : Nat} (hcp : g_cap ln cp) {A0 A' : gM} {r : Int32} (C : gC p R s m args meth c cX6_part RX6 3 D g (va_A (gw g ad ln A0 N) s.heap.size) 50) (hr : meth.sig.returnType = some .int)  {A : gM} {s0 : Int32} (h : mX6_part_b37 cp A s0 = some (A', r)) : gJ p l e R s m args below meth c (gEi below D g N ad ln A0 A' r args s) 3 D g (va_A (gw g ad ln A0 N) s.heap.size) N ad ln A [] 0 0 37 [gi s0] := by
  unfold mX6_part_b37 at h
  obtain ⟨rfl, rfl⟩ := Prod.mk.inj (Option.some.inj h)
  exact g_reti C hr dX6_part_37

set_option maxHeartbeats 2000000 in
set_option maxRecDepth 20000 in
theorem wX6_part_b32 (hN : 193 ≤ N) {cp : Nat} (hcp : g_cap ln cp) {A0 A' : gM} {r : Int32} (C : gC p R s m args meth c cX6_part RX6 3 D g (va_A (gw g ad ln A0 N) s.heap.size) 50) (hr : meth.sig.returnType = some .int)  {A : gM} (h : mX6_part_b32 cp A = some (A', r)) : gJ p l e R s m args below meth c (gEi below D g N ad ln A0 A' r args s) 3 D g (va_A (gw g ad ln A0 N) s.heap.size) N ad ln A [(0, gr 183)] 0 0 32 [] := by
  unfold mX6_part_b32 at h
  refine g_aload_n C 0 dX6_part_32 rfl ?_
  refine g_iconst (v := 1) C dX6_part_33 (by decide) ?_
  obtain ⟨q1, eq1, h⟩ := g_bd h
  refine g_calliV C 183 [gi 1] (kX6_fail hN hcp eq1) qs_X6_60 (by omega) (by omega) rfl rfl rfl rfl (Nat.le_of_ble_eq_true rfl) ⟨Nat.zero_le _, Nat.zero_le _⟩ dX6_part_34 ?_
  refine g_sub [] rfl ?_
  exact wX6_part_b37 hN hcp C hr h

set_option maxHeartbeats 2000000 in
set_option maxRecDepth 20000 in
theorem wX6_part_b0 (hN : 193 ≤ N) {cp : Nat} (hcp : g_cap ln cp) {A0 A' : gM} {r : Int32} (C : gC p R s m args meth c cX6_part RX6 3 D g (va_A (gw g ad ln A0 N) s.heap.size) 50) (hr : meth.sig.returnType = some .int)  {A : gM} {x1 : Int32} {x2 : Int32} (h : mX6_part_b0 cp A x1 x2 = some (A', r)) : gJ p l e R s m args below meth c (gEi below D g N ad ln A0 A' r args s) 3 D g (va_A (gw g ad ln A0 N) s.heap.size) N ad ln A [(0, gr 183), (1, gi x1), (2, gi x2)] 0 0 0 [] := by
  unfold mX6_part_b0 at h
  refine g_aload_n C 0 dX6_part_0 rfl ?_
  refine g_iconst (v := 0) C dX6_part_1 (by decide) ?_
  obtain ⟨A1, eA1, h⟩ := g_lt h
  refine g_put C 183 0 tyX6 tyX6_ok nmX6 (by omega) rfl rfl gu_6 (by decide) qf_X6_35 rfl (by decide +kernel) (Nat.le_of_ble_eq_true rfl) rfl eA1 dX6_part_2 ?_
  refine g_aload_n C 0 dX6_part_5 rfl ?_
  refine g_iload_n C 1 dX6_part_6 rfl ?_
  obtain ⟨q2, eq2, h⟩ := g_bd h
  refine g_calliV C 183 [gi x1] (kX6_isPart hN hcp eq2) qs_X6_75 (by omega) (by omega) rfl rfl rfl rfl (Nat.le_of_ble_eq_true rfl) ⟨Nat.zero_le _, Nat.zero_le _⟩ dX6_part_7 ?_
  refine g_if_eq C dX6_part_10 (tgt := 32) (by decide) (fun c3 => ?_) (fun c3 => ?_)
  · have h := g_tt c3 h
    refine g_sub [0] rfl ?_
    exact wX6_part_b32 hN hcp C hr h
  · have h := g_ff c3 h
    refine g_iload_n C 2 dX6_part_13 rfl ?_
    refine g_iconst (v := 0) C dX6_part_14 (by decide) ?_
    refine g_bipush (v := 6) C dX6_part_15 (by decide) ?_
    obtain ⟨q4, eq4, h⟩ := g_bd h
    refine g_calliS C [gi x2, gi 0, gi 6] (kX6_isIn hN hcp eq4) qs_X6_42 (by omega) rfl rfl (Nat.le_of_ble_eq_true rfl) ⟨Nat.zero_le _, Nat.zero_le _⟩ dX6_part_17 ?_
    refine g_if_eq C dX6_part_20 (tgt := 32) (by decide) (fun c5 => ?_) (fun c5 => ?_)
    · have h := g_tt c5 h
      refine g_sub [0] rfl ?_
      exact wX6_part_b32 hN hcp C hr h
    · have h := g_ff c5 h
      refine g_aload_n C 0 dX6_part_23 rfl ?_
      refine g_iload_n C 1 dX6_part_24 rfl ?_
      refine g_iload_n C 2 dX6_part_25 rfl ?_
      obtain ⟨q6, eq6, h⟩ := g_bd h
      refine g_calliV C 183 [gi x1, gi x2] (kX6_partTold hN hcp eq6) qs_X6_185 (by omega) (by omega) rfl rfl rfl rfl (Nat.le_of_ble_eq_true rfl) ⟨Nat.zero_le _, Nat.zero_le _⟩ dX6_part_26 ?_
      refine g_goto C dX6_part_29 (tgt := 37) (by decide) ?_
      refine g_sub [] rfl ?_
      exact wX6_part_b37 hN hcp C hr h

set_option maxHeartbeats 2000000 in
set_option maxRecDepth 20000 in
theorem kX6_part {l : Launch} {D : va_G} {g : gT} {N : Nat} {ad ln : Nat → Nat} (hN : 193 ≤ N) {cp : Nat} (hcp : g_cap ln cp) {A A' : gM} {x1 : Int32} {x2 : Int32} {r : Int32} (h : mX6_part cp A x1 x2 = some (A', r)) : gKi l yX6_part cX6_part 3 (some .int) (50) D g N ad ln A [gr 183, gi x1, gi x2] A' r := by
  refine g_meti (by decide) (Nat.le_of_ble_eq_true rfl) ?_
  intro p e s m args below meth c C hr
  refine g_sub [0, 1, 2] rfl ?_
  exact wX6_part_b0 hN hcp C hr h
end M1
