theorem qs_X6_139 : g_site RX6 RX6 139 yX6_found cX6_found 3 (some .int) 1 := ⟨g_tb (List.mem_of_getElem? (i := 881) (by decide +kernel)) (by decide +kernel), g_tb (List.mem_of_getElem? (i := 883) (by decide +kernel)) (by decide +kernel), g_tb (List.mem_of_getElem? (i := 44) (by decide +kernel)) (by decide +kernel), g_tb (List.mem_of_getElem? (i := 79) (by decide +kernel)) (by decide +kernel), g_tb (List.mem_of_getElem? (i := 884) (by decide +kernel)) (by decide +kernel), ⟨rfl, by decide, by decide, by decide +kernel⟩, by decide⟩
theorem qs_X6_142 : g_site RX6 RX6 142 yX6_inside cX6_inside 5 (some .int) 3 := ⟨g_tb (List.mem_of_getElem? (i := 928) (by decide +kernel)) (by decide +kernel), g_tb (List.mem_of_getElem? (i := 930) (by decide +kernel)) (by decide +kernel), g_tb (List.mem_of_getElem? (i := 55) (by decide +kernel)) (by decide +kernel), g_tb (List.mem_of_getElem? (i := 79) (by decide +kernel)) (by decide +kernel), g_tb (List.mem_of_getElem? (i := 931) (by decide +kernel)) (by decide +kernel), ⟨rfl, by decide, by decide, by decide +kernel⟩, by decide⟩
theorem qs_X6_145 : g_site RX6 RX6 145 yX6_nameFound cX6_nameFound 3 (some .int) 1 := ⟨g_tb (List.mem_of_getElem? (i := 896) (by decide +kernel)) (by decide +kernel), g_tb (List.mem_of_getElem? (i := 898) (by decide +kernel)) (by decide +kernel), g_tb (List.mem_of_getElem? (i := 47) (by decide +kernel)) (by decide +kernel), g_tb (List.mem_of_getElem? (i := 79) (by decide +kernel)) (by decide +kernel), g_tb (List.mem_of_getElem? (i := 899) (by decide +kernel)) (by decide +kernel), ⟨rfl, by decide, by decide, by decide +kernel⟩, by decide⟩
theorem qs_X6_148 : g_site RX6 RX6 148 yX6_wheelFound cX6_wheelFound 4 (some .int) 1 := ⟨g_tb (List.mem_of_getElem? (i := 924) (by decide +kernel)) (by decide +kernel), g_tb (List.mem_of_getElem? (i := 926) (by decide +kernel)) (by decide +kernel), g_tb (List.mem_of_getElem? (i := 54) (by decide +kernel)) (by decide +kernel), g_tb (List.mem_of_getElem? (i := 79) (by decide +kernel)) (by decide +kernel), g_tb (List.mem_of_getElem? (i := 927) (by decide +kernel)) (by decide +kernel), ⟨rfl, by decide, by decide, by decide +kernel⟩, by decide⟩
theorem qs_X6_151 : g_site RX6 RX6 151 yX6_turningFound cX6_turningFound 5 (some .int) 1 := ⟨g_tb (List.mem_of_getElem? (i := 932) (by decide +kernel)) (by decide +kernel), g_tb (List.mem_of_getElem? (i := 934) (by decide +kernel)) (by decide +kernel), g_tb (List.mem_of_getElem? (i := 56) (by decide +kernel)) (by decide +kernel), g_tb (List.mem_of_getElem? (i := 79) (by decide +kernel)) (by decide +kernel), g_tb (List.mem_of_getElem? (i := 935) (by decide +kernel)) (by decide +kernel), ⟨rfl, by decide, by decide, by decide +kernel⟩, by decide⟩
theorem qs_X6_154 : g_site RX6 RX6 154 yX6_tellingFound cX6_tellingFound 3 (some .int) 1 := ⟨g_tb (List.mem_of_getElem? (i := 944) (by decide +kernel)) (by decide +kernel), g_tb (List.mem_of_getElem? (i := 946) (by decide +kernel)) (by decide +kernel), g_tb (List.mem_of_getElem? (i := 59) (by decide +kernel)) (by decide +kernel), g_tb (List.mem_of_getElem? (i := 79) (by decide +kernel)) (by decide +kernel), g_tb (List.mem_of_getElem? (i := 947) (by decide +kernel)) (by decide +kernel), ⟨rfl, by decide, by decide, by decide +kernel⟩, by decide⟩
theorem qs_X6_157 : g_site RX6 RX6 157 yX6_axleFound cX6_axleFound 4 (some .int) 1 := ⟨g_tb (List.mem_of_getElem? (i := 956) (by decide +kernel)) (by decide +kernel), g_tb (List.mem_of_getElem? (i := 958) (by decide +kernel)) (by decide +kernel), g_tb (List.mem_of_getElem? (i := 62) (by decide +kernel)) (by decide +kernel), g_tb (List.mem_of_getElem? (i := 79) (by decide +kernel)) (by decide +kernel), g_tb (List.mem_of_getElem? (i := 959) (by decide +kernel)) (by decide +kernel), ⟨rfl, by decide, by decide, by decide +kernel⟩, by decide⟩
theorem qs_X6_160 : g_site RX6 RX6 160 yX6_endFound cX6_endFound 5 (some .int) 1 := ⟨g_tb (List.mem_of_getElem? (i := 960) (by decide +kernel)) (by decide +kernel), g_tb (List.mem_of_getElem? (i := 962) (by decide +kernel)) (by decide +kernel), g_tb (List.mem_of_getElem? (i := 63) (by decide +kernel)) (by decide +kernel), g_tb (List.mem_of_getElem? (i := 79) (by decide +kernel)) (by decide +kernel), g_tb (List.mem_of_getElem? (i := 963) (by decide +kernel)) (by decide +kernel), ⟨rfl, by decide, by decide, by decide +kernel⟩, by decide⟩
theorem qs_X6_163 : g_site RX6 RX6 163 yX6_choiceFound cX6_choiceFound 5 (some .int) 1 := ⟨g_tb (List.mem_of_getElem? (i := 964) (by decide +kernel)) (by decide +kernel), g_tb (List.mem_of_getElem? (i := 966) (by decide +kernel)) (by decide +kernel), g_tb (List.mem_of_getElem? (i := 64) (by decide +kernel)) (by decide +kernel), g_tb (List.mem_of_getElem? (i := 79) (by decide +kernel)) (by decide +kernel), g_tb (List.mem_of_getElem? (i := 967) (by decide +kernel)) (by decide +kernel), ⟨rfl, by decide, by decide, by decide +kernel⟩, by decide⟩
theorem qs_X6_166 : g_site RX6 RX6 166 yX6_sortFound cX6_sortFound 2 (some .int) 1 := ⟨g_tb (List.mem_of_getElem? (i := 885) (by decide +kernel)) (by decide +kernel), g_tb (List.mem_of_getElem? (i := 887) (by decide +kernel)) (by decide +kernel), g_tb (List.mem_of_getElem? (i := 45) (by decide +kernel)) (by decide +kernel), g_tb (List.mem_of_getElem? (i := 79) (by decide +kernel)) (by decide +kernel), g_tb (List.mem_of_getElem? (i := 888) (by decide +kernel)) (by decide +kernel), ⟨rfl, by decide, by decide, by decide +kernel⟩, by decide⟩
theorem dX6_inside_0 : decode cX6_inside 0 = .ok (.aload_n 0, 1) := by decide +kernel
theorem dX6_inside_1 : decode cX6_inside 1 = .ok (.getfield 29, 3) := by decide +kernel
theorem dX6_inside_4 : decode cX6_inside 4 = .ok (.aload_n 0, 1) := by decide +kernel
theorem dX6_inside_5 : decode cX6_inside 5 = .ok (.getfield 119, 3) := by decide +kernel
theorem dX6_inside_8 : decode cX6_inside 8 = .ok (.iload_n 2, 1) := by decide +kernel
theorem dX6_inside_9 : decode cX6_inside 9 = .ok (.iastore, 1) := by decide +kernel
theorem dX6_inside_10 : decode cX6_inside 10 = .ok (.aload_n 0, 1) := by decide +kernel
theorem dX6_inside_11 : decode cX6_inside 11 = .ok (.getfield 32, 3) := by decide +kernel
theorem dX6_inside_14 : decode cX6_inside 14 = .ok (.aload_n 0, 1) := by decide +kernel
theorem dX6_inside_15 : decode cX6_inside 15 = .ok (.getfield 119, 3) := by decide +kernel
theorem dX6_inside_18 : decode cX6_inside 18 = .ok (.iload_n 3, 1) := by decide +kernel
theorem dX6_inside_19 : decode cX6_inside 19 = .ok (.iastore, 1) := by decide +kernel
theorem dX6_inside_20 : decode cX6_inside 20 = .ok (.aload_n 0, 1) := by decide +kernel
theorem dX6_inside_21 : decode cX6_inside 21 = .ok (.dup, 1) := by decide +kernel
theorem dX6_inside_22 : decode cX6_inside 22 = .ok (.getfield 119, 3) := by decide +kernel
theorem dX6_inside_25 : decode cX6_inside 25 = .ok (.iconst 1, 1) := by decide +kernel
theorem dX6_inside_26 : decode cX6_inside 26 = .ok (.iadd, 1) := by decide +kernel
theorem dX6_inside_27 : decode cX6_inside 27 = .ok (.putfield 119, 3) := by decide +kernel
theorem dX6_inside_30 : decode cX6_inside 30 = .ok (.aload_n 0, 1) := by decide +kernel
theorem dX6_inside_31 : decode cX6_inside 31 = .ok (.iload_n 1, 1) := by decide +kernel
theorem dX6_inside_32 : decode cX6_inside 32 = .ok (.invokevirtual 139, 3) := by decide +kernel
theorem dX6_inside_35 : decode cX6_inside 35 = .ok (.istore 4, 2) := by decide +kernel
theorem dX6_inside_37 : decode cX6_inside 37 = .ok (.aload_n 0, 1) := by decide +kernel
theorem dX6_inside_38 : decode cX6_inside 38 = .ok (.dup, 1) := by decide +kernel
theorem dX6_inside_39 : decode cX6_inside 39 = .ok (.getfield 119, 3) := by decide +kernel
theorem dX6_inside_42 : decode cX6_inside 42 = .ok (.iconst 1, 1) := by decide +kernel
theorem dX6_inside_43 : decode cX6_inside 43 = .ok (.isub, 1) := by decide +kernel
theorem dX6_inside_44 : decode cX6_inside 44 = .ok (.putfield 119, 3) := by decide +kernel
theorem dX6_inside_47 : decode cX6_inside 47 = .ok (.iload 4, 2) := by decide +kernel
theorem dX6_inside_49 : decode cX6_inside 49 = .ok (.ireturn, 1) := by decide +kernel
theorem dX6_wheelFound_0 : decode cX6_wheelFound 0 = .ok (.aload_n 0, 1) := by decide +kernel
theorem dX6_wheelFound_1 : decode cX6_wheelFound 1 = .ok (.invokevirtual 135, 3) := by decide +kernel
theorem dX6_wheelFound_4 : decode cX6_wheelFound 4 = .ok (.istore_n 2, 1) := by decide +kernel
theorem dX6_wheelFound_5 : decode cX6_wheelFound 5 = .ok (.aload_n 0, 1) := by decide +kernel
theorem dX6_wheelFound_6 : decode cX6_wheelFound 6 = .ok (.aload_n 0, 1) := by decide +kernel
theorem dX6_wheelFound_7 : decode cX6_wheelFound 7 = .ok (.iload_n 1, 1) := by decide +kernel
theorem dX6_wheelFound_8 : decode cX6_wheelFound 8 = .ok (.iconst 1, 1) := by decide +kernel
theorem dX6_wheelFound_9 : decode cX6_wheelFound 9 = .ok (.invokevirtual 46, 3) := by decide +kernel
theorem dX6_wheelFound_12 : decode cX6_wheelFound 12 = .ok (.aload_n 0, 1) := by decide +kernel
theorem dX6_wheelFound_13 : decode cX6_wheelFound 13 = .ok (.iload_n 1, 1) := by decide +kernel
theorem dX6_wheelFound_14 : decode cX6_wheelFound 14 = .ok (.iconst 4, 1) := by decide +kernel
theorem dX6_wheelFound_15 : decode cX6_wheelFound 15 = .ok (.invokevirtual 46, 3) := by decide +kernel
theorem dX6_wheelFound_18 : decode cX6_wheelFound 18 = .ok (.iload_n 2, 1) := by decide +kernel
theorem dX6_wheelFound_19 : decode cX6_wheelFound 19 = .ok (.invokevirtual 142, 3) := by decide +kernel
theorem dX6_wheelFound_22 : decode cX6_wheelFound 22 = .ok (.istore_n 3, 1) := by decide +kernel
theorem dX6_wheelFound_23 : decode cX6_wheelFound 23 = .ok (.iload_n 3, 1) := by decide +kernel
theorem dX6_wheelFound_24 : decode cX6_wheelFound 24 = .ok (.iconst (-1), 1) := by decide +kernel
theorem dX6_wheelFound_25 : decode cX6_wheelFound 25 = .ok (.if_icmp .ne 7, 3) := by decide +kernel
theorem dX6_wheelFound_28 : decode cX6_wheelFound 28 = .ok (.iconst (-1), 1) := by decide +kernel
theorem dX6_wheelFound_29 : decode cX6_wheelFound 29 = .ok (.goto 10, 3) := by decide +kernel
theorem dX6_wheelFound_32 : decode cX6_wheelFound 32 = .ok (.aload_n 0, 1) := by decide +kernel
theorem dX6_wheelFound_33 : decode cX6_wheelFound 33 = .ok (.iconst 2, 1) := by decide +kernel
theorem dX6_wheelFound_34 : decode cX6_wheelFound 34 = .ok (.iload_n 2, 1) := by decide +kernel
theorem dX6_wheelFound_35 : decode cX6_wheelFound 35 = .ok (.iload_n 3, 1) := by decide +kernel
theorem dX6_wheelFound_36 : decode cX6_wheelFound 36 = .ok (.invokevirtual 85, 3) := by decide +kernel
theorem dX6_wheelFound_39 : decode cX6_wheelFound 39 = .ok (.ireturn, 1) := by decide +kernel
theorem dX6_turningFound_0 : decode cX6_turningFound 0 = .ok (.aload_n 0, 1) := by decide +kernel
theorem dX6_turningFound_1 : decode cX6_turningFound 1 = .ok (.aload_n 0, 1) := by decide +kernel
theorem dX6_turningFound_2 : decode cX6_turningFound 2 = .ok (.iload_n 1, 1) := by decide +kernel
theorem dX6_turningFound_3 : decode cX6_turningFound 3 = .ok (.iconst 1, 1) := by decide +kernel
theorem dX6_turningFound_4 : decode cX6_turningFound 4 = .ok (.invokevirtual 46, 3) := by decide +kernel
theorem dX6_turningFound_7 : decode cX6_turningFound 7 = .ok (.invokevirtual 139, 3) := by decide +kernel
theorem dX6_turningFound_10 : decode cX6_turningFound 10 = .ok (.istore_n 2, 1) := by decide +kernel
theorem dX6_turningFound_11 : decode cX6_turningFound 11 = .ok (.iload_n 2, 1) := by decide +kernel
theorem dX6_turningFound_12 : decode cX6_turningFound 12 = .ok (.iconst (-1), 1) := by decide +kernel
theorem dX6_turningFound_13 : decode cX6_turningFound 13 = .ok (.if_icmp .ne 5, 3) := by decide +kernel
theorem dX6_turningFound_16 : decode cX6_turningFound 16 = .ok (.iconst (-1), 1) := by decide +kernel
theorem dX6_turningFound_17 : decode cX6_turningFound 17 = .ok (.ireturn, 1) := by decide +kernel
theorem dX6_turningFound_18 : decode cX6_turningFound 18 = .ok (.aload_n 0, 1) := by decide +kernel
theorem dX6_turningFound_19 : decode cX6_turningFound 19 = .ok (.aload_n 0, 1) := by decide +kernel
theorem dX6_turningFound_20 : decode cX6_turningFound 20 = .ok (.iload_n 1, 1) := by decide +kernel
theorem dX6_turningFound_21 : decode cX6_turningFound 21 = .ok (.iconst 2, 1) := by decide +kernel
theorem dX6_turningFound_22 : decode cX6_turningFound 22 = .ok (.invokevirtual 46, 3) := by decide +kernel
theorem dX6_turningFound_25 : decode cX6_turningFound 25 = .ok (.invokevirtual 139, 3) := by decide +kernel
theorem dX6_turningFound_28 : decode cX6_turningFound 28 = .ok (.istore_n 3, 1) := by decide +kernel
theorem dX6_turningFound_29 : decode cX6_turningFound 29 = .ok (.iload_n 3, 1) := by decide +kernel
theorem dX6_turningFound_30 : decode cX6_turningFound 30 = .ok (.iconst (-1), 1) := by decide +kernel
theorem dX6_turningFound_31 : decode cX6_turningFound 31 = .ok (.if_icmp .ne 5, 3) := by decide +kernel
theorem dX6_turningFound_34 : decode cX6_turningFound 34 = .ok (.iconst (-1), 1) := by decide +kernel
theorem dX6_turningFound_35 : decode cX6_turningFound 35 = .ok (.ireturn, 1) := by decide +kernel
theorem dX6_turningFound_36 : decode cX6_turningFound 36 = .ok (.aload_n 0, 1) := by decide +kernel
theorem dX6_turningFound_37 : decode cX6_turningFound 37 = .ok (.invokevirtual 135, 3) := by decide +kernel
theorem dX6_turningFound_40 : decode cX6_turningFound 40 = .ok (.istore 4, 2) := by decide +kernel
theorem dX6_turningFound_42 : decode cX6_turningFound 42 = .ok (.aload_n 0, 1) := by decide +kernel
theorem dX6_turningFound_43 : decode cX6_turningFound 43 = .ok (.iload_n 2, 1) := by decide +kernel
theorem dX6_turningFound_44 : decode cX6_turningFound 44 = .ok (.aload_n 0, 1) := by decide +kernel
theorem dX6_turningFound_45 : decode cX6_turningFound 45 = .ok (.iconst 2, 1) := by decide +kernel
theorem dX6_turningFound_46 : decode cX6_turningFound 46 = .ok (.iload_n 3, 1) := by decide +kernel
theorem dX6_turningFound_47 : decode cX6_turningFound 47 = .ok (.iload 4, 2) := by decide +kernel
theorem dX6_turningFound_49 : decode cX6_turningFound 49 = .ok (.invokevirtual 85, 3) := by decide +kernel
theorem dX6_turningFound_52 : decode cX6_turningFound 52 = .ok (.iload_n 1, 1) := by decide +kernel
theorem dX6_turningFound_53 : decode cX6_turningFound 53 = .ok (.invokevirtual 108, 3) := by decide +kernel
theorem dX6_turningFound_56 : decode cX6_turningFound 56 = .ok (.ifCond .eq 8, 3) := by decide +kernel
theorem dX6_turningFound_59 : decode cX6_turningFound 59 = .ok (.iload 4, 2) := by decide +kernel
theorem dX6_turningFound_61 : decode cX6_turningFound 61 = .ok (.goto 4, 3) := by decide +kernel
theorem dX6_turningFound_64 : decode cX6_turningFound 64 = .ok (.iconst (-1), 1) := by decide +kernel
theorem dX6_turningFound_65 : decode cX6_turningFound 65 = .ok (.ireturn, 1) := by decide +kernel
theorem dX6_tellingFound_0 : decode cX6_tellingFound 0 = .ok (.aload_n 0, 1) := by decide +kernel
theorem dX6_tellingFound_1 : decode cX6_tellingFound 1 = .ok (.aload_n 0, 1) := by decide +kernel
theorem dX6_tellingFound_2 : decode cX6_tellingFound 2 = .ok (.iload_n 1, 1) := by decide +kernel
theorem dX6_tellingFound_3 : decode cX6_tellingFound 3 = .ok (.iconst 1, 1) := by decide +kernel
theorem dX6_tellingFound_4 : decode cX6_tellingFound 4 = .ok (.invokevirtual 46, 3) := by decide +kernel
theorem dX6_tellingFound_7 : decode cX6_tellingFound 7 = .ok (.invokevirtual 139, 3) := by decide +kernel
theorem dX6_tellingFound_10 : decode cX6_tellingFound 10 = .ok (.istore_n 2, 1) := by decide +kernel
theorem dX6_tellingFound_11 : decode cX6_tellingFound 11 = .ok (.iload_n 2, 1) := by decide +kernel
theorem dX6_tellingFound_12 : decode cX6_tellingFound 12 = .ok (.iconst (-1), 1) := by decide +kernel
theorem dX6_tellingFound_13 : decode cX6_tellingFound 13 = .ok (.if_icmp .ne 5, 3) := by decide +kernel
theorem dX6_tellingFound_16 : decode cX6_tellingFound 16 = .ok (.iconst (-1), 1) := by decide +kernel
theorem dX6_tellingFound_17 : decode cX6_tellingFound 17 = .ok (.ireturn, 1) := by decide +kernel
theorem dX6_tellingFound_18 : decode cX6_tellingFound 18 = .ok (.aload_n 0, 1) := by decide +kernel
theorem dX6_tellingFound_19 : decode cX6_tellingFound 19 = .ok (.iload_n 2, 1) := by decide +kernel
theorem dX6_tellingFound_20 : decode cX6_tellingFound 20 = .ok (.invokevirtual 122, 3) := by decide +kernel
theorem dX6_tellingFound_23 : decode cX6_tellingFound 23 = .ok (.aload_n 0, 1) := by decide +kernel
theorem dX6_tellingFound_24 : decode cX6_tellingFound 24 = .ok (.aload_n 0, 1) := by decide +kernel
theorem dX6_tellingFound_25 : decode cX6_tellingFound 25 = .ok (.iload_n 1, 1) := by decide +kernel
theorem dX6_tellingFound_26 : decode cX6_tellingFound 26 = .ok (.iconst 2, 1) := by decide +kernel
theorem dX6_tellingFound_27 : decode cX6_tellingFound 27 = .ok (.invokevirtual 46, 3) := by decide +kernel
theorem dX6_tellingFound_30 : decode cX6_tellingFound 30 = .ok (.aload_n 0, 1) := by decide +kernel
theorem dX6_tellingFound_31 : decode cX6_tellingFound 31 = .ok (.iload_n 1, 1) := by decide +kernel
theorem dX6_tellingFound_32 : decode cX6_tellingFound 32 = .ok (.iconst 4, 1) := by decide +kernel
theorem dX6_tellingFound_33 : decode cX6_tellingFound 33 = .ok (.invokevirtual 46, 3) := by decide +kernel
theorem dX6_tellingFound_36 : decode cX6_tellingFound 36 = .ok (.iload_n 2, 1) := by decide +kernel
theorem dX6_tellingFound_37 : decode cX6_tellingFound 37 = .ok (.invokevirtual 142, 3) := by decide +kernel
theorem dX6_tellingFound_40 : decode cX6_tellingFound 40 = .ok (.ireturn, 1) := by decide +kernel
theorem dX6_axleFound_0 : decode cX6_axleFound 0 = .ok (.aload_n 0, 1) := by decide +kernel
theorem dX6_axleFound_1 : decode cX6_axleFound 1 = .ok (.aload_n 0, 1) := by decide +kernel
theorem dX6_axleFound_2 : decode cX6_axleFound 2 = .ok (.iload_n 1, 1) := by decide +kernel
theorem dX6_axleFound_3 : decode cX6_axleFound 3 = .ok (.iconst 1, 1) := by decide +kernel
theorem dX6_axleFound_4 : decode cX6_axleFound 4 = .ok (.invokevirtual 46, 3) := by decide +kernel
theorem dX6_axleFound_7 : decode cX6_axleFound 7 = .ok (.invokevirtual 139, 3) := by decide +kernel
theorem dX6_axleFound_10 : decode cX6_axleFound 10 = .ok (.istore_n 2, 1) := by decide +kernel
theorem dX6_axleFound_11 : decode cX6_axleFound 11 = .ok (.iload_n 2, 1) := by decide +kernel
theorem dX6_axleFound_12 : decode cX6_axleFound 12 = .ok (.iconst (-1), 1) := by decide +kernel
theorem dX6_axleFound_13 : decode cX6_axleFound 13 = .ok (.if_icmp .ne 5, 3) := by decide +kernel
theorem dX6_axleFound_16 : decode cX6_axleFound 16 = .ok (.iconst (-1), 1) := by decide +kernel
theorem dX6_axleFound_17 : decode cX6_axleFound 17 = .ok (.ireturn, 1) := by decide +kernel
theorem dX6_axleFound_18 : decode cX6_axleFound 18 = .ok (.aload_n 0, 1) := by decide +kernel
theorem dX6_axleFound_19 : decode cX6_axleFound 19 = .ok (.aload_n 0, 1) := by decide +kernel
theorem dX6_axleFound_20 : decode cX6_axleFound 20 = .ok (.iload_n 1, 1) := by decide +kernel
theorem dX6_axleFound_21 : decode cX6_axleFound 21 = .ok (.iconst 2, 1) := by decide +kernel
theorem dX6_axleFound_22 : decode cX6_axleFound 22 = .ok (.invokevirtual 46, 3) := by decide +kernel
theorem dX6_axleFound_25 : decode cX6_axleFound 25 = .ok (.invokevirtual 139, 3) := by decide +kernel
theorem dX6_axleFound_28 : decode cX6_axleFound 28 = .ok (.istore_n 3, 1) := by decide +kernel
theorem dX6_axleFound_29 : decode cX6_axleFound 29 = .ok (.iload_n 3, 1) := by decide +kernel
theorem dX6_axleFound_30 : decode cX6_axleFound 30 = .ok (.iconst (-1), 1) := by decide +kernel
theorem dX6_axleFound_31 : decode cX6_axleFound 31 = .ok (.if_icmp .ne 7, 3) := by decide +kernel
theorem dX6_axleFound_34 : decode cX6_axleFound 34 = .ok (.iconst (-1), 1) := by decide +kernel
theorem dX6_axleFound_35 : decode cX6_axleFound 35 = .ok (.goto 10, 3) := by decide +kernel
theorem dX6_axleFound_38 : decode cX6_axleFound 38 = .ok (.aload_n 0, 1) := by decide +kernel
theorem dX6_axleFound_39 : decode cX6_axleFound 39 = .ok (.iconst 3, 1) := by decide +kernel
theorem dX6_axleFound_40 : decode cX6_axleFound 40 = .ok (.iload_n 2, 1) := by decide +kernel
theorem dX6_axleFound_41 : decode cX6_axleFound 41 = .ok (.iload_n 3, 1) := by decide +kernel
theorem dX6_axleFound_42 : decode cX6_axleFound 42 = .ok (.invokevirtual 85, 3) := by decide +kernel
theorem dX6_axleFound_45 : decode cX6_axleFound 45 = .ok (.ireturn, 1) := by decide +kernel
theorem dX6_endFound_0 : decode cX6_endFound 0 = .ok (.aload_n 0, 1) := by decide +kernel
theorem dX6_endFound_1 : decode cX6_endFound 1 = .ok (.aload_n 0, 1) := by decide +kernel
theorem dX6_endFound_2 : decode cX6_endFound 2 = .ok (.iload_n 1, 1) := by decide +kernel
theorem dX6_endFound_3 : decode cX6_endFound 3 = .ok (.iconst 1, 1) := by decide +kernel
theorem dX6_endFound_4 : decode cX6_endFound 4 = .ok (.invokevirtual 46, 3) := by decide +kernel
theorem dX6_endFound_7 : decode cX6_endFound 7 = .ok (.invokevirtual 139, 3) := by decide +kernel
theorem dX6_endFound_10 : decode cX6_endFound 10 = .ok (.istore_n 2, 1) := by decide +kernel
theorem dX6_endFound_11 : decode cX6_endFound 11 = .ok (.iload_n 2, 1) := by decide +kernel
theorem dX6_endFound_12 : decode cX6_endFound 12 = .ok (.iconst (-1), 1) := by decide +kernel
theorem dX6_endFound_13 : decode cX6_endFound 13 = .ok (.if_icmp .ne 5, 3) := by decide +kernel
theorem dX6_endFound_16 : decode cX6_endFound 16 = .ok (.iconst (-1), 1) := by decide +kernel
theorem dX6_endFound_17 : decode cX6_endFound 17 = .ok (.ireturn, 1) := by decide +kernel
theorem dX6_endFound_18 : decode cX6_endFound 18 = .ok (.aload_n 0, 1) := by decide +kernel
theorem dX6_endFound_19 : decode cX6_endFound 19 = .ok (.invokevirtual 135, 3) := by decide +kernel
theorem dX6_endFound_22 : decode cX6_endFound 22 = .ok (.istore_n 3, 1) := by decide +kernel
theorem dX6_endFound_23 : decode cX6_endFound 23 = .ok (.aload_n 0, 1) := by decide +kernel
theorem dX6_endFound_24 : decode cX6_endFound 24 = .ok (.invokevirtual 135, 3) := by decide +kernel
theorem dX6_endFound_27 : decode cX6_endFound 27 = .ok (.istore 4, 2) := by decide +kernel
theorem dX6_endFound_29 : decode cX6_endFound 29 = .ok (.aload_n 0, 1) := by decide +kernel
theorem dX6_endFound_30 : decode cX6_endFound 30 = .ok (.iload_n 2, 1) := by decide +kernel
theorem dX6_endFound_31 : decode cX6_endFound 31 = .ok (.aload_n 0, 1) := by decide +kernel
theorem dX6_endFound_32 : decode cX6_endFound 32 = .ok (.iconst 3, 1) := by decide +kernel
theorem dX6_endFound_33 : decode cX6_endFound 33 = .ok (.iload_n 3, 1) := by decide +kernel
theorem dX6_endFound_34 : decode cX6_endFound 34 = .ok (.iload 4, 2) := by decide +kernel
theorem dX6_endFound_36 : decode cX6_endFound 36 = .ok (.invokevirtual 85, 3) := by decide +kernel
theorem dX6_endFound_39 : decode cX6_endFound 39 = .ok (.iload_n 1, 1) := by decide +kernel
theorem dX6_endFound_40 : decode cX6_endFound 40 = .ok (.invokevirtual 108, 3) := by decide +kernel
theorem dX6_endFound_43 : decode cX6_endFound 43 = .ok (.ifCond .ne 5, 3) := by decide +kernel
theorem dX6_endFound_46 : decode cX6_endFound 46 = .ok (.iconst (-1), 1) := by decide +kernel
theorem dX6_endFound_47 : decode cX6_endFound 47 = .ok (.ireturn, 1) := by decide +kernel
theorem dX6_endFound_48 : decode cX6_endFound 48 = .ok (.aload_n 0, 1) := by decide +kernel
theorem dX6_endFound_49 : decode cX6_endFound 49 = .ok (.iload_n 1, 1) := by decide +kernel
theorem dX6_endFound_50 : decode cX6_endFound 50 = .ok (.iconst 4, 1) := by decide +kernel
theorem dX6_endFound_51 : decode cX6_endFound 51 = .ok (.invokevirtual 46, 3) := by decide +kernel
theorem dX6_endFound_54 : decode cX6_endFound 54 = .ok (.ifCond .ne 7, 3) := by decide +kernel
theorem dX6_endFound_57 : decode cX6_endFound 57 = .ok (.iload_n 3, 1) := by decide +kernel
theorem dX6_endFound_58 : decode cX6_endFound 58 = .ok (.goto 5, 3) := by decide +kernel
theorem dX6_endFound_61 : decode cX6_endFound 61 = .ok (.iload 4, 2) := by decide +kernel
theorem dX6_endFound_63 : decode cX6_endFound 63 = .ok (.ireturn, 1) := by decide +kernel
theorem dX6_choiceFound_0 : decode cX6_choiceFound 0 = .ok (.aload_n 0, 1) := by decide +kernel
theorem dX6_choiceFound_1 : decode cX6_choiceFound 1 = .ok (.aload_n 0, 1) := by decide +kernel
theorem dX6_choiceFound_2 : decode cX6_choiceFound 2 = .ok (.iload_n 1, 1) := by decide +kernel
theorem dX6_choiceFound_3 : decode cX6_choiceFound 3 = .ok (.iconst 1, 1) := by decide +kernel
theorem dX6_choiceFound_4 : decode cX6_choiceFound 4 = .ok (.invokevirtual 46, 3) := by decide +kernel
theorem dX6_choiceFound_7 : decode cX6_choiceFound 7 = .ok (.invokevirtual 139, 3) := by decide +kernel
theorem dX6_choiceFound_10 : decode cX6_choiceFound 10 = .ok (.istore_n 2, 1) := by decide +kernel
theorem dX6_choiceFound_11 : decode cX6_choiceFound 11 = .ok (.iload_n 2, 1) := by decide +kernel
theorem dX6_choiceFound_12 : decode cX6_choiceFound 12 = .ok (.iconst (-1), 1) := by decide +kernel
theorem dX6_choiceFound_13 : decode cX6_choiceFound 13 = .ok (.if_icmp .eq 19, 3) := by decide +kernel
theorem dX6_choiceFound_16 : decode cX6_choiceFound 16 = .ok (.aload_n 0, 1) := by decide +kernel
theorem dX6_choiceFound_17 : decode cX6_choiceFound 17 = .ok (.iload_n 2, 1) := by decide +kernel
theorem dX6_choiceFound_18 : decode cX6_choiceFound 18 = .ok (.aload_n 0, 1) := by decide +kernel
theorem dX6_choiceFound_19 : decode cX6_choiceFound 19 = .ok (.iconst 1, 1) := by decide +kernel
theorem dX6_choiceFound_20 : decode cX6_choiceFound 20 = .ok (.iconst (-1), 1) := by decide +kernel
theorem dX6_choiceFound_21 : decode cX6_choiceFound 21 = .ok (.iconst (-1), 1) := by decide +kernel
theorem dX6_choiceFound_22 : decode cX6_choiceFound 22 = .ok (.invokevirtual 85, 3) := by decide +kernel
theorem dX6_choiceFound_25 : decode cX6_choiceFound 25 = .ok (.iload_n 1, 1) := by decide +kernel
theorem dX6_choiceFound_26 : decode cX6_choiceFound 26 = .ok (.invokevirtual 108, 3) := by decide +kernel
theorem dX6_choiceFound_29 : decode cX6_choiceFound 29 = .ok (.ifCond .ne 5, 3) := by decide +kernel
theorem dX6_choiceFound_32 : decode cX6_choiceFound 32 = .ok (.iconst (-1), 1) := by decide +kernel
theorem dX6_choiceFound_33 : decode cX6_choiceFound 33 = .ok (.ireturn, 1) := by decide +kernel
theorem dX6_choiceFound_34 : decode cX6_choiceFound 34 = .ok (.aload_n 0, 1) := by decide +kernel
theorem dX6_choiceFound_35 : decode cX6_choiceFound 35 = .ok (.aload_n 0, 1) := by decide +kernel
theorem dX6_choiceFound_36 : decode cX6_choiceFound 36 = .ok (.iload_n 1, 1) := by decide +kernel
theorem dX6_choiceFound_37 : decode cX6_choiceFound 37 = .ok (.iconst 2, 1) := by decide +kernel
theorem dX6_choiceFound_38 : decode cX6_choiceFound 38 = .ok (.invokevirtual 46, 3) := by decide +kernel
theorem dX6_choiceFound_41 : decode cX6_choiceFound 41 = .ok (.invokevirtual 139, 3) := by decide +kernel
theorem dX6_choiceFound_44 : decode cX6_choiceFound 44 = .ok (.istore_n 3, 1) := by decide +kernel
theorem dX6_choiceFound_45 : decode cX6_choiceFound 45 = .ok (.iload_n 3, 1) := by decide +kernel
theorem dX6_choiceFound_46 : decode cX6_choiceFound 46 = .ok (.iconst (-1), 1) := by decide +kernel
theorem dX6_choiceFound_47 : decode cX6_choiceFound 47 = .ok (.if_icmp .ne 5, 3) := by decide +kernel
theorem dX6_choiceFound_50 : decode cX6_choiceFound 50 = .ok (.iconst (-1), 1) := by decide +kernel
theorem dX6_choiceFound_51 : decode cX6_choiceFound 51 = .ok (.ireturn, 1) := by decide +kernel
theorem dX6_choiceFound_52 : decode cX6_choiceFound 52 = .ok (.aload_n 0, 1) := by decide +kernel
theorem dX6_choiceFound_53 : decode cX6_choiceFound 53 = .ok (.aload_n 0, 1) := by decide +kernel
theorem dX6_choiceFound_54 : decode cX6_choiceFound 54 = .ok (.iload_n 1, 1) := by decide +kernel
theorem dX6_choiceFound_55 : decode cX6_choiceFound 55 = .ok (.iconst 3, 1) := by decide +kernel
theorem dX6_choiceFound_56 : decode cX6_choiceFound 56 = .ok (.invokevirtual 46, 3) := by decide +kernel
theorem dX6_choiceFound_59 : decode cX6_choiceFound 59 = .ok (.invokevirtual 139, 3) := by decide +kernel
theorem dX6_choiceFound_62 : decode cX6_choiceFound 62 = .ok (.istore 4, 2) := by decide +kernel
theorem dX6_choiceFound_64 : decode cX6_choiceFound 64 = .ok (.iload 4, 2) := by decide +kernel
theorem dX6_choiceFound_66 : decode cX6_choiceFound 66 = .ok (.iconst (-1), 1) := by decide +kernel
theorem dX6_choiceFound_67 : decode cX6_choiceFound 67 = .ok (.if_icmp .eq 18, 3) := by decide +kernel
theorem dX6_choiceFound_70 : decode cX6_choiceFound 70 = .ok (.aload_n 0, 1) := by decide +kernel
theorem dX6_choiceFound_71 : decode cX6_choiceFound 71 = .ok (.iload_n 3, 1) := by decide +kernel
theorem dX6_choiceFound_72 : decode cX6_choiceFound 72 = .ok (.iload 4, 2) := by decide +kernel
theorem dX6_choiceFound_74 : decode cX6_choiceFound 74 = .ok (.iload_n 1, 1) := by decide +kernel
theorem dX6_choiceFound_75 : decode cX6_choiceFound 75 = .ok (.invokevirtual 108, 3) := by decide +kernel
theorem dX6_choiceFound_78 : decode cX6_choiceFound 78 = .ok (.ifCond .eq 7, 3) := by decide +kernel
theorem dX6_choiceFound_81 : decode cX6_choiceFound 81 = .ok (.iload_n 3, 1) := by decide +kernel
theorem dX6_choiceFound_82 : decode cX6_choiceFound 82 = .ok (.goto 4, 3) := by decide +kernel
theorem dX6_choiceFound_85 : decode cX6_choiceFound 85 = .ok (.iconst (-1), 1) := by decide +kernel
theorem dX6_choiceFound_86 : decode cX6_choiceFound 86 = .ok (.ireturn, 1) := by decide +kernel
theorem dX6_sortFound_0 : decode cX6_sortFound 0 = .ok (.aload_n 0, 1) := by decide +kernel
theorem dX6_sortFound_1 : decode cX6_sortFound 1 = .ok (.iload_n 1, 1) := by decide +kernel
theorem dX6_sortFound_2 : decode cX6_sortFound 2 = .ok (.iconst 0, 1) := by decide +kernel
theorem dX6_sortFound_3 : decode cX6_sortFound 3 = .ok (.invokevirtual 46, 3) := by decide +kernel
theorem dX6_sortFound_6 : decode cX6_sortFound 6 = .ok (.tableswitch 95 0 7 #[46, 46, 59, 65, 71, 77, 83, 89], 46) := by decide +kernel
theorem dX6_sortFound_52 : decode cX6_sortFound 52 = .ok (.aload_n 0, 1) := by decide +kernel
theorem dX6_sortFound_53 : decode cX6_sortFound 53 = .ok (.aload_n 0, 1) := by decide +kernel
theorem dX6_sortFound_54 : decode cX6_sortFound 54 = .ok (.iload_n 1, 1) := by decide +kernel
theorem dX6_sortFound_55 : decode cX6_sortFound 55 = .ok (.iconst 0, 1) := by decide +kernel
theorem dX6_sortFound_56 : decode cX6_sortFound 56 = .ok (.invokevirtual 46, 3) := by decide +kernel
theorem dX6_sortFound_59 : decode cX6_sortFound 59 = .ok (.iconst (-1), 1) := by decide +kernel
theorem dX6_sortFound_60 : decode cX6_sortFound 60 = .ok (.iconst (-1), 1) := by decide +kernel
theorem dX6_sortFound_61 : decode cX6_sortFound 61 = .ok (.invokevirtual 85, 3) := by decide +kernel
theorem dX6_sortFound_64 : decode cX6_sortFound 64 = .ok (.ireturn, 1) := by decide +kernel
theorem dX6_sortFound_65 : decode cX6_sortFound 65 = .ok (.aload_n 0, 1) := by decide +kernel
theorem dX6_sortFound_66 : decode cX6_sortFound 66 = .ok (.iload_n 1, 1) := by decide +kernel
theorem dX6_sortFound_67 : decode cX6_sortFound 67 = .ok (.invokevirtual 145, 3) := by decide +kernel
theorem dX6_sortFound_70 : decode cX6_sortFound 70 = .ok (.ireturn, 1) := by decide +kernel
theorem dX6_sortFound_71 : decode cX6_sortFound 71 = .ok (.aload_n 0, 1) := by decide +kernel
theorem dX6_sortFound_72 : decode cX6_sortFound 72 = .ok (.iload_n 1, 1) := by decide +kernel
theorem dX6_sortFound_73 : decode cX6_sortFound 73 = .ok (.invokevirtual 148, 3) := by decide +kernel
theorem dX6_sortFound_76 : decode cX6_sortFound 76 = .ok (.ireturn, 1) := by decide +kernel
theorem dX6_sortFound_77 : decode cX6_sortFound 77 = .ok (.aload_n 0, 1) := by decide +kernel
theorem dX6_sortFound_78 : decode cX6_sortFound 78 = .ok (.iload_n 1, 1) := by decide +kernel
theorem dX6_sortFound_79 : decode cX6_sortFound 79 = .ok (.invokevirtual 151, 3) := by decide +kernel
theorem dX6_sortFound_82 : decode cX6_sortFound 82 = .ok (.ireturn, 1) := by decide +kernel
theorem dX6_sortFound_83 : decode cX6_sortFound 83 = .ok (.aload_n 0, 1) := by decide +kernel
theorem dX6_sortFound_84 : decode cX6_sortFound 84 = .ok (.iload_n 1, 1) := by decide +kernel
theorem dX6_sortFound_85 : decode cX6_sortFound 85 = .ok (.invokevirtual 154, 3) := by decide +kernel
theorem dX6_sortFound_88 : decode cX6_sortFound 88 = .ok (.ireturn, 1) := by decide +kernel
theorem dX6_sortFound_89 : decode cX6_sortFound 89 = .ok (.aload_n 0, 1) := by decide +kernel
theorem dX6_sortFound_90 : decode cX6_sortFound 90 = .ok (.iload_n 1, 1) := by decide +kernel
theorem dX6_sortFound_91 : decode cX6_sortFound 91 = .ok (.invokevirtual 157, 3) := by decide +kernel
theorem dX6_sortFound_94 : decode cX6_sortFound 94 = .ok (.ireturn, 1) := by decide +kernel
theorem dX6_sortFound_95 : decode cX6_sortFound 95 = .ok (.aload_n 0, 1) := by decide +kernel
theorem dX6_sortFound_96 : decode cX6_sortFound 96 = .ok (.iload_n 1, 1) := by decide +kernel
theorem dX6_sortFound_97 : decode cX6_sortFound 97 = .ok (.invokevirtual 160, 3) := by decide +kernel
theorem dX6_sortFound_100 : decode cX6_sortFound 100 = .ok (.ireturn, 1) := by decide +kernel
theorem dX6_sortFound_101 : decode cX6_sortFound 101 = .ok (.aload_n 0, 1) := by decide +kernel
theorem dX6_sortFound_102 : decode cX6_sortFound 102 = .ok (.iload_n 1, 1) := by decide +kernel
theorem dX6_sortFound_103 : decode cX6_sortFound 103 = .ok (.invokevirtual 163, 3) := by decide +kernel
theorem dX6_sortFound_106 : decode cX6_sortFound 106 = .ok (.ireturn, 1) := by decide +kernel
theorem dX6_found_0 : decode cX6_found 0 = .ok (.aload_n 0, 1) := by decide +kernel
theorem dX6_found_1 : decode cX6_found 1 = .ok (.iload_n 1, 1) := by decide +kernel
theorem dX6_found_2 : decode cX6_found 2 = .ok (.invokevirtual 166, 3) := by decide +kernel
theorem dX6_found_5 : decode cX6_found 5 = .ok (.istore_n 2, 1) := by decide +kernel
theorem dX6_found_6 : decode cX6_found 6 = .ok (.iload_n 2, 1) := by decide +kernel
theorem dX6_found_7 : decode cX6_found 7 = .ok (.iconst (-1), 1) := by decide +kernel
theorem dX6_found_8 : decode cX6_found 8 = .ok (.if_icmp .eq 22, 3) := by decide +kernel
theorem dX6_found_11 : decode cX6_found 11 = .ok (.aload_n 0, 1) := by decide +kernel
theorem dX6_found_12 : decode cX6_found 12 = .ok (.iload_n 2, 1) := by decide +kernel
theorem dX6_found_13 : decode cX6_found 13 = .ok (.invokevirtual 111, 3) := by decide +kernel
theorem dX6_found_16 : decode cX6_found 16 = .ok (.bipush 60, 2) := by decide +kernel
theorem dX6_found_18 : decode cX6_found 18 = .ok (.if_icmp .le 12, 3) := by decide +kernel
theorem dX6_found_21 : decode cX6_found 21 = .ok (.aload_n 0, 1) := by decide +kernel
theorem dX6_found_22 : decode cX6_found 22 = .ok (.iconst 4, 1) := by decide +kernel
theorem dX6_found_23 : decode cX6_found 23 = .ok (.iload_n 1, 1) := by decide +kernel
theorem dX6_found_24 : decode cX6_found 24 = .ok (.invokevirtual 105, 3) := by decide +kernel
theorem dX6_found_27 : decode cX6_found 27 = .ok (.goto 4, 3) := by decide +kernel
theorem dX6_found_30 : decode cX6_found 30 = .ok (.iload_n 2, 1) := by decide +kernel
theorem dX6_found_31 : decode cX6_found 31 = .ok (.ireturn, 1) := by decide +kernel
theorem dX6_typeOf_0 : decode cX6_typeOf 0 = .ok (.aload_n 0, 1) := by decide +kernel
theorem dX6_typeOf_1 : decode cX6_typeOf 1 = .ok (.iconst 0, 1) := by decide +kernel
theorem dX6_typeOf_2 : decode cX6_typeOf 2 = .ok (.putfield 78, 3) := by decide +kernel
theorem dX6_typeOf_5 : decode cX6_typeOf 5 = .ok (.aload_n 0, 1) := by decide +kernel
theorem dX6_typeOf_6 : decode cX6_typeOf 6 = .ok (.iconst 0, 1) := by decide +kernel
theorem dX6_typeOf_7 : decode cX6_typeOf 7 = .ok (.putfield 119, 3) := by decide +kernel
theorem dX6_typeOf_10 : decode cX6_typeOf 10 = .ok (.aload_n 0, 1) := by decide +kernel
theorem dX6_typeOf_11 : decode cX6_typeOf 11 = .ok (.iconst 0, 1) := by decide +kernel
theorem dX6_typeOf_12 : decode cX6_typeOf 12 = .ok (.putfield 99, 3) := by decide +kernel
theorem dX6_typeOf_15 : decode cX6_typeOf 15 = .ok (.aload_n 0, 1) := by decide +kernel
theorem dX6_typeOf_16 : decode cX6_typeOf 16 = .ok (.iconst (-1), 1) := by decide +kernel
theorem dX6_typeOf_17 : decode cX6_typeOf 17 = .ok (.putfield 102, 3) := by decide +kernel
theorem dX6_typeOf_20 : decode cX6_typeOf 20 = .ok (.aload_n 0, 1) := by decide +kernel
theorem dX6_typeOf_21 : decode cX6_typeOf 21 = .ok (.iload_n 1, 1) := by decide +kernel
theorem dX6_typeOf_22 : decode cX6_typeOf 22 = .ok (.invokevirtual 139, 3) := by decide +kernel
theorem dX6_typeOf_25 : decode cX6_typeOf 25 = .ok (.ireturn, 1) := by decide +kernel
section M4
variable {p : Program} {l : Launch} {e : Env} {R : Room} {s : State} {m : MethodId} {args : Array Value} {below : List Frame} {meth : Method} {c : Code} {D : va_G} {g : gT} {N : Nat} {ad ln ad0 ln0 : Nat → Nat}
def mX6_inside_b35 (N cp k n : Nat) (rec : Nat → gM → Int32 → Option (gM × (Nat × Nat × Nat) × Int32)) (A : gM) (s0 : Int32) : Option (gM × (Nat × Nat × Nat) × Int32) :=
  g_let (g_up A 183 9 ((A 183 9) - 1)) fun A1 =>
  some (A1, (cp, k, n), s0)
def mX6_inside_b0 (N cp k n : Nat) (rec : Nat → gM → Int32 → Option (gM × (Nat × Nat × Nat) × Int32)) (A : gM) (x1 : Int32) (x2 : Int32) (x3 : Int32) : Option (gM × (Nat × Nat × Nat) × Int32) :=
  if g_in (A 183 9) 61 = true then g_let (g_up A 190 (A 183 9).toNatClampNeg x2) fun A2 =>
  if g_in (A2 183 9) 61 = true then g_let (g_up A2 191 (A2 183 9).toNatClampNeg x3) fun A4 =>
  g_let (g_up A4 183 9 ((A4 183 9) + 1)) fun A5 =>
  (rec cp A5 x1).bind fun q6 =>
  mX6_inside_b35 N q6.2.1.1 (k + q6.2.1.2.1) (n + q6.2.1.2.2) rec q6.1 q6.2.2
  else none
  else none
def mX6_inside (N cp : Nat) (rec : Nat → gM → Int32 → Option (gM × (Nat × Nat × Nat) × Int32)) (A : gM) (x1 : Int32) (x2 : Int32) (x3 : Int32) : Option (gM × (Nat × Nat × Nat) × Int32) := mX6_inside_b0 N cp 0 0 rec A x1 x2 x3
set_option maxHeartbeats 2000000 in
set_option maxRecDepth 20000 in
theorem oX6_inside_b35 {N : Nat} {rec : Nat → gM → Int32 → Option (gM × (Nat × Nat × Nat) × Int32)} {A' : gM} {u : Nat × Nat × Nat} {r : Int32}  {cp k n : Nat} {A : gM} {s0 : Int32} (h : mX6_inside_b35 N cp k n rec A s0 = some (A', u, r)) : k ≤ u.2.1 ∧ n ≤ u.2.2 := by
  unfold mX6_inside_b35 at h
  obtain ⟨A1, eA1, h⟩ := g_lt h
  obtain ⟨rfl, h2⟩ := Prod.mk.inj (Option.some.inj h)
  obtain ⟨rfl, rfl⟩ := Prod.mk.inj h2
  exact ⟨Nat.le_refl _, Nat.le_refl _⟩

set_option maxHeartbeats 2000000 in
set_option maxRecDepth 20000 in
theorem wX6_inside_b35 (hN : 193 ≤ N)  {rec : Nat → gM → Int32 → Option (gM × (Nat × Nat × Nat) × Int32)} {fu : Nat} (hrec : ∀ {ad ln : Nat → Nat} {cp : Nat} (_ : g_cap ln cp) {A A' : gM} {x1 : Int32} {u : Nat × Nat × Nat} {r : Int32}, rec cp A x1 = some (A', u, r) → gAi l yX6_found cX6_found 3 (some .int) (1330 + 4 * fu) D g N ad ln A [gr 183, gi x1] A' u r) {A0 A' : gM} {u : Nat × Nat × Nat} {r : Int32} (C : gC p (g_rmx (1330 + 4 * fu + 1) u.2.1 u.2.2) s m args meth c cX6_inside RX6 5 D g (va_A (gw g ad0 ln0 A0 N) s.heap.size) (1330 + 4 * fu + 1)) (hr : meth.sig.returnType = some .int)  {cp k n : Nat} (hch : g_chg N ad0 ln0 ad ln cp) {A : gM} {s0 : Int32} (h : mX6_inside_b35 N cp k n rec A s0 = some (A', u, r)) : gJ p l e (g_rmx (1330 + 4 * fu + 1) u.2.1 u.2.2) s m args below meth c (gEAi below D g N ad0 ln0 A0 A' u r args s) 5 D g (va_A (gw g ad0 ln0 A0 N) s.heap.size) N ad ln A [(0, gr 183)] k n 35 [gi s0] := by
  have hkn := oX6_inside_b35 h
  unfold mX6_inside_b35 at h
  refine g_istore C dX6_inside_35 (by decide) rfl ?_
  refine g_aload_n C 1 dX6_inside_37 rfl ?_
  refine g_dup_r C dX6_inside_38 ?_
  refine g_get (v := gi (A 183 9)) C 183 9 (by omega) rfl rfl gu_6 (by decide) qf_X6_119 rfl dX6_inside_39 ?_
  refine g_iconst (v := 1) C dX6_inside_42 (by decide) ?_
  refine g_isub C dX6_inside_43 ?_
  obtain ⟨A1, eA1, h⟩ := g_lt h
  refine g_put C 183 9 tyX6 tyX6_ok nmX6 (by omega) rfl rfl gu_6 (by decide) qf_X6_119 rfl (by decide +kernel) (Nat.le_of_ble_eq_true rfl) rfl eA1 dX6_inside_44 ?_
  refine g_iload C 0 dX6_inside_47 rfl ?_
  obtain ⟨rfl, h2⟩ := Prod.mk.inj (Option.some.inj h)
  obtain ⟨rfl, rfl⟩ := Prod.mk.inj h2
  exact g_retAi C hch hr dX6_inside_49

set_option maxHeartbeats 2000000 in
set_option maxRecDepth 20000 in
theorem oX6_inside_b0 {N : Nat} {rec : Nat → gM → Int32 → Option (gM × (Nat × Nat × Nat) × Int32)} {A' : gM} {u : Nat × Nat × Nat} {r : Int32}  {cp k n : Nat} {A : gM} {x1 : Int32} {x2 : Int32} {x3 : Int32} (h : mX6_inside_b0 N cp k n rec A x1 x2 x3 = some (A', u, r)) : k ≤ u.2.1 ∧ n ≤ u.2.2 := by
  unfold mX6_inside_b0 at h
  obtain ⟨hg1, h⟩ := g_gd h
  obtain ⟨A2, eA2, h⟩ := g_lt h
  obtain ⟨hg3, h⟩ := g_gd h
  obtain ⟨A4, eA4, h⟩ := g_lt h
  obtain ⟨A5, eA5, h⟩ := g_lt h
  obtain ⟨q6, eq6, h⟩ := g_bd h
  have mo := oX6_inside_b35 h
  exact ⟨by omega, by omega⟩

set_option maxHeartbeats 2000000 in
set_option maxRecDepth 20000 in
theorem wX6_inside_b0 (hN : 193 ≤ N)  {rec : Nat → gM → Int32 → Option (gM × (Nat × Nat × Nat) × Int32)} {fu : Nat} (hrec : ∀ {ad ln : Nat → Nat} {cp : Nat} (_ : g_cap ln cp) {A A' : gM} {x1 : Int32} {u : Nat × Nat × Nat} {r : Int32}, rec cp A x1 = some (A', u, r) → gAi l yX6_found cX6_found 3 (some .int) (1330 + 4 * fu) D g N ad ln A [gr 183, gi x1] A' u r) {A0 A' : gM} {u : Nat × Nat × Nat} {r : Int32} (C : gC p (g_rmx (1330 + 4 * fu + 1) u.2.1 u.2.2) s m args meth c cX6_inside RX6 5 D g (va_A (gw g ad0 ln0 A0 N) s.heap.size) (1330 + 4 * fu + 1)) (hr : meth.sig.returnType = some .int)  {cp k n : Nat} (hch : g_chg N ad0 ln0 ad ln cp) {A : gM} {x1 : Int32} {x2 : Int32} {x3 : Int32} (h : mX6_inside_b0 N cp k n rec A x1 x2 x3 = some (A', u, r)) : gJ p l e (g_rmx (1330 + 4 * fu + 1) u.2.1 u.2.2) s m args below meth c (gEAi below D g N ad0 ln0 A0 A' u r args s) 5 D g (va_A (gw g ad0 ln0 A0 N) s.heap.size) N ad ln A [(0, gr 183), (1, gi x1), (2, gi x2), (3, gi x3)] k n 0 [] := by
  have hkn := oX6_inside_b0 h
  unfold mX6_inside_b0 at h
  refine g_aload_n C 0 dX6_inside_0 rfl ?_
  refine g_get (v := gr 190) C 183 10 (by omega) rfl rfl gu_6 (by decide) qf_X6_29 rfl dX6_inside_1 ?_
  refine g_aload_n C 0 dX6_inside_4 rfl ?_
  refine g_get (v := gi (A 183 9)) C 183 9 (by omega) rfl rfl gu_6 (by decide) qf_X6_119 rfl dX6_inside_5 ?_
  refine g_iload_n C 2 dX6_inside_8 rfl ?_
  obtain ⟨hg1, h⟩ := g_gd h
  obtain ⟨A2, eA2, h⟩ := g_lt h
  refine g_iast C 190 (by omega) rfl rfl hg1 eA2 dX6_inside_9 ?_
  refine g_aload_n C 0 dX6_inside_10 rfl ?_
  refine g_get (v := gr 191) C 183 11 (by omega) rfl rfl gu_6 (by decide) qf_X6_32 rfl dX6_inside_11 ?_
  refine g_aload_n C 0 dX6_inside_14 rfl ?_
  refine g_get (v := gi (A2 183 9)) C 183 9 (by omega) rfl rfl gu_6 (by decide) qf_X6_119 rfl dX6_inside_15 ?_
  refine g_iload_n C 3 dX6_inside_18 rfl ?_
  obtain ⟨hg3, h⟩ := g_gd h
  obtain ⟨A4, eA4, h⟩ := g_lt h
  refine g_iast C 191 (by omega) rfl rfl hg3 eA4 dX6_inside_19 ?_
  refine g_aload_n C 0 dX6_inside_20 rfl ?_
  refine g_dup_r C dX6_inside_21 ?_
  refine g_get (v := gi (A4 183 9)) C 183 9 (by omega) rfl rfl gu_6 (by decide) qf_X6_119 rfl dX6_inside_22 ?_
  refine g_iconst (v := 1) C dX6_inside_25 (by decide) ?_
  refine g_iadd C dX6_inside_26 ?_
  obtain ⟨A5, eA5, h⟩ := g_lt h
  refine g_put C 183 9 tyX6 tyX6_ok nmX6 (by omega) rfl rfl gu_6 (by decide) qf_X6_119 rfl (by decide +kernel) (Nat.le_of_ble_eq_true rfl) rfl eA5 dX6_inside_27 ?_
  refine g_aload_n C 0 dX6_inside_30 rfl ?_
  refine g_iload_n C 1 dX6_inside_31 rfl ?_
  obtain ⟨q6, eq6, h⟩ := g_bd h
  have mo := oX6_inside_b35 h
  refine g_callAiV C 183 [gi x1] (hrec hch.2 eq6) qs_X6_139 (by omega) (by omega) rfl rfl rfl rfl (Nat.le_of_ble_eq_true rfl) ⟨mo.1, mo.2⟩ (And.intro ⟨by omega, by omega⟩ True.intro) True.intro dX6_inside_32 (fun ad1 ln1 hch1 => ?_)
  have hch := g_chg.trans (by omega) hch hch1
  refine g_sub [0] rfl ?_
  exact wX6_inside_b35 hN hrec C hr hch h

set_option maxHeartbeats 2000000 in
set_option maxRecDepth 20000 in
theorem kX6_inside {l : Launch} {D : va_G} {g : gT} {N : Nat} (hN : 193 ≤ N) {rec : Nat → gM → Int32 → Option (gM × (Nat × Nat × Nat) × Int32)} {fu : Nat} (hrec : ∀ {ad ln : Nat → Nat} {cp : Nat} (_ : g_cap ln cp) {A A' : gM} {x1 : Int32} {u : Nat × Nat × Nat} {r : Int32}, rec cp A x1 = some (A', u, r) → gAi l yX6_found cX6_found 3 (some .int) (1330 + 4 * fu) D g N ad ln A [gr 183, gi x1] A' u r) {ad ln : Nat → Nat} {cp : Nat} (hcp : g_cap ln cp) {A A' : gM} {x1 : Int32} {x2 : Int32} {x3 : Int32} {u : Nat × Nat × Nat} {r : Int32} (h : mX6_inside N cp rec A x1 x2 x3 = some (A', u, r)) : gAi l yX6_inside cX6_inside 5 (some .int) ((1330 + 4 * fu + 1)) D g N ad ln A [gr 183, gi x1, gi x2, gi x3] A' u r := by
  refine g_metAi (by decide) (Nat.le_of_ble_eq_true rfl) ?_
  intro p e s m args below meth c C hr
  refine g_sub [0, 1, 2, 3] rfl ?_
  exact wX6_inside_b0 hN hrec C hr (g_chg.rf hcp) h
def mX6_wheelFound_b39 (N cp k n : Nat) (rec : Nat → gM → Int32 → Option (gM × (Nat × Nat × Nat) × Int32)) (A : gM) (s0 : Int32) : Option (gM × (Nat × Nat × Nat) × Int32) :=
  some (A, (cp, k, n), s0)
def mX6_wheelFound_b22 (N cp k n : Nat) (rec : Nat → gM → Int32 → Option (gM × (Nat × Nat × Nat) × Int32)) (A : gM) (x2 : Int32) (s0 : Int32) : Option (gM × (Nat × Nat × Nat) × Int32) :=
  if s0 = (-1) then
  mX6_wheelFound_b39 N cp k n rec A (-1)
  else
  (mX6_node N cp A 2 x2 s0).bind fun q2 =>
  mX6_wheelFound_b39 N q2.2.1.1 (k + q2.2.1.2.1) (n + q2.2.1.2.2) rec q2.1 q2.2.2
def mX6_wheelFound_b4 (N cp k n : Nat) (rec : Nat → gM → Int32 → Option (gM × (Nat × Nat × Nat) × Int32)) (A : gM) (x1 : Int32) (s0 : Int32) : Option (gM × (Nat × Nat × Nat) × Int32) :=
  (mX6_pa cp A x1 1).bind fun q1 =>
  (mX6_pa cp q1.1 x1 4).bind fun q2 =>
  (mX6_inside N cp rec q2.1 q1.2 q2.2 s0).bind fun q3 =>
  mX6_wheelFound_b22 N q3.2.1.1 (k + q3.2.1.2.1) (n + q3.2.1.2.2) rec q3.1 s0 q3.2.2
def mX6_wheelFound_b0 (N cp k n : Nat) (rec : Nat → gM → Int32 → Option (gM × (Nat × Nat × Nat) × Int32)) (A : gM) (x1 : Int32) : Option (gM × (Nat × Nat × Nat) × Int32) :=
  (mX6_variable N cp A).bind fun q1 =>
  mX6_wheelFound_b4 N q1.2.1.1 (k + q1.2.1.2.1) (n + q1.2.1.2.2) rec q1.1 x1 q1.2.2
def mX6_wheelFound (N cp : Nat) (rec : Nat → gM → Int32 → Option (gM × (Nat × Nat × Nat) × Int32)) (A : gM) (x1 : Int32) : Option (gM × (Nat × Nat × Nat) × Int32) := mX6_wheelFound_b0 N cp 0 0 rec A x1
set_option maxHeartbeats 2000000 in
set_option maxRecDepth 20000 in
theorem oX6_wheelFound_b39 {N : Nat} {rec : Nat → gM → Int32 → Option (gM × (Nat × Nat × Nat) × Int32)} {A' : gM} {u : Nat × Nat × Nat} {r : Int32}  {cp k n : Nat} {A : gM} {s0 : Int32} (h : mX6_wheelFound_b39 N cp k n rec A s0 = some (A', u, r)) : k ≤ u.2.1 ∧ n ≤ u.2.2 := by
  unfold mX6_wheelFound_b39 at h
  obtain ⟨rfl, h2⟩ := Prod.mk.inj (Option.some.inj h)
  obtain ⟨rfl, rfl⟩ := Prod.mk.inj h2
  exact ⟨Nat.le_refl _, Nat.le_refl _⟩

set_option maxHeartbeats 2000000 in
set_option maxRecDepth 20000 in
theorem wX6_wheelFound_b39 (hN : 193 ≤ N)  {rec : Nat → gM → Int32 → Option (gM × (Nat × Nat × Nat) × Int32)} {fu : Nat} (hrec : ∀ {ad ln : Nat → Nat} {cp : Nat} (_ : g_cap ln cp) {A A' : gM} {x1 : Int32} {u : Nat × Nat × Nat} {r : Int32}, rec cp A x1 = some (A', u, r) → gAi l yX6_found cX6_found 3 (some .int) (1330 + 4 * fu) D g N ad ln A [gr 183, gi x1] A' u r) {A0 A' : gM} {u : Nat × Nat × Nat} {r : Int32} (C : gC p (g_rmx (1330 + 4 * fu + 2) u.2.1 u.2.2) s m args meth c cX6_wheelFound RX6 4 D g (va_A (gw g ad0 ln0 A0 N) s.heap.size) (1330 + 4 * fu + 2)) (hr : meth.sig.returnType = some .int)  {cp k n : Nat} (hch : g_chg N ad0 ln0 ad ln cp) {A : gM} {s0 : Int32} (h : mX6_wheelFound_b39 N cp k n rec A s0 = some (A', u, r)) : gJ p l e (g_rmx (1330 + 4 * fu + 2) u.2.1 u.2.2) s m args below meth c (gEAi below D g N ad0 ln0 A0 A' u r args s) 4 D g (va_A (gw g ad0 ln0 A0 N) s.heap.size) N ad ln A [] k n 39 [gi s0] := by
  have hkn := oX6_wheelFound_b39 h
  unfold mX6_wheelFound_b39 at h
  obtain ⟨rfl, h2⟩ := Prod.mk.inj (Option.some.inj h)
  obtain ⟨rfl, rfl⟩ := Prod.mk.inj h2
  exact g_retAi C hch hr dX6_wheelFound_39

set_option maxHeartbeats 2000000 in
set_option maxRecDepth 20000 in
theorem oX6_wheelFound_b22 {N : Nat} {rec : Nat → gM → Int32 → Option (gM × (Nat × Nat × Nat) × Int32)} {A' : gM} {u : Nat × Nat × Nat} {r : Int32}  {cp k n : Nat} {A : gM} {x2 : Int32} {s0 : Int32} (h : mX6_wheelFound_b22 N cp k n rec A x2 s0 = some (A', u, r)) : k ≤ u.2.1 ∧ n ≤ u.2.2 := by
  unfold mX6_wheelFound_b22 at h
  by_cases c1 : s0 = (-1)
  · have h := g_tt c1 h
    exact oX6_wheelFound_b39 h
  · have h := g_ff c1 h
    obtain ⟨q2, eq2, h⟩ := g_bd h
    have mo := oX6_wheelFound_b39 h
    exact ⟨by omega, by omega⟩

set_option maxHeartbeats 2000000 in
set_option maxRecDepth 20000 in
theorem wX6_wheelFound_b22 (hN : 193 ≤ N)  {rec : Nat → gM → Int32 → Option (gM × (Nat × Nat × Nat) × Int32)} {fu : Nat} (hrec : ∀ {ad ln : Nat → Nat} {cp : Nat} (_ : g_cap ln cp) {A A' : gM} {x1 : Int32} {u : Nat × Nat × Nat} {r : Int32}, rec cp A x1 = some (A', u, r) → gAi l yX6_found cX6_found 3 (some .int) (1330 + 4 * fu) D g N ad ln A [gr 183, gi x1] A' u r) {A0 A' : gM} {u : Nat × Nat × Nat} {r : Int32} (C : gC p (g_rmx (1330 + 4 * fu + 2) u.2.1 u.2.2) s m args meth c cX6_wheelFound RX6 4 D g (va_A (gw g ad0 ln0 A0 N) s.heap.size) (1330 + 4 * fu + 2)) (hr : meth.sig.returnType = some .int)  {cp k n : Nat} (hch : g_chg N ad0 ln0 ad ln cp) {A : gM} {x2 : Int32} {s0 : Int32} (h : mX6_wheelFound_b22 N cp k n rec A x2 s0 = some (A', u, r)) : gJ p l e (g_rmx (1330 + 4 * fu + 2) u.2.1 u.2.2) s m args below meth c (gEAi below D g N ad0 ln0 A0 A' u r args s) 4 D g (va_A (gw g ad0 ln0 A0 N) s.heap.size) N ad ln A [(0, gr 183), (2, gi x2)] k n 22 [gi s0] := by
  have hkn := oX6_wheelFound_b22 h
  unfold mX6_wheelFound_b22 at h
  refine g_istore_n C dX6_wheelFound_22 (by decide) rfl ?_
  refine g_iload_n C 0 dX6_wheelFound_23 rfl ?_
  refine g_iconst (v := (-1)) C dX6_wheelFound_24 (by decide) ?_
  refine g_icmp_ne C dX6_wheelFound_25 (tgt := 32) (by decide) (fun c1 => ?_) (fun c1 => ?_)
  · have h := g_ff c1 h
    refine g_aload_n C 1 dX6_wheelFound_32 rfl ?_
    refine g_iconst (v := 2) C dX6_wheelFound_33 (by decide) ?_
    refine g_iload_n C 2 dX6_wheelFound_34 rfl ?_
    refine g_iload_n C 0 dX6_wheelFound_35 rfl ?_
    obtain ⟨q2, eq2, h⟩ := g_bd h
    have mo := oX6_wheelFound_b39 h
    refine g_callAiV C 183 [gi 2, gi x2, gi s0] (kX6_node hN hch.2 eq2) qs_X6_85 (by omega) (by omega) rfl rfl rfl rfl (Nat.le_of_ble_eq_true rfl) ⟨mo.1, mo.2⟩ (And.intro ⟨by omega, by omega⟩ True.intro) True.intro dX6_wheelFound_36 (fun ad1 ln1 hch1 => ?_)
    have hch := g_chg.trans (by omega) hch hch1
    refine g_sub [] rfl ?_
    exact wX6_wheelFound_b39 hN hrec C hr hch h
  · have h := g_tt c1 h
    refine g_iconst (v := (-1)) C dX6_wheelFound_28 (by decide) ?_
    refine g_goto C dX6_wheelFound_29 (tgt := 39) (by decide) ?_
    refine g_sub [] rfl ?_
    exact wX6_wheelFound_b39 hN hrec C hr hch h

set_option maxHeartbeats 2000000 in
set_option maxRecDepth 20000 in
theorem oX6_wheelFound_b4 {N : Nat} {rec : Nat → gM → Int32 → Option (gM × (Nat × Nat × Nat) × Int32)} {A' : gM} {u : Nat × Nat × Nat} {r : Int32}  {cp k n : Nat} {A : gM} {x1 : Int32} {s0 : Int32} (h : mX6_wheelFound_b4 N cp k n rec A x1 s0 = some (A', u, r)) : k ≤ u.2.1 ∧ n ≤ u.2.2 := by
  unfold mX6_wheelFound_b4 at h
  obtain ⟨q1, eq1, h⟩ := g_bd h
  obtain ⟨q2, eq2, h⟩ := g_bd h
  obtain ⟨q3, eq3, h⟩ := g_bd h
  have mo := oX6_wheelFound_b22 h
  exact ⟨by omega, by omega⟩

set_option maxHeartbeats 2000000 in
set_option maxRecDepth 20000 in
theorem wX6_wheelFound_b4 (hN : 193 ≤ N)  {rec : Nat → gM → Int32 → Option (gM × (Nat × Nat × Nat) × Int32)} {fu : Nat} (hrec : ∀ {ad ln : Nat → Nat} {cp : Nat} (_ : g_cap ln cp) {A A' : gM} {x1 : Int32} {u : Nat × Nat × Nat} {r : Int32}, rec cp A x1 = some (A', u, r) → gAi l yX6_found cX6_found 3 (some .int) (1330 + 4 * fu) D g N ad ln A [gr 183, gi x1] A' u r) {A0 A' : gM} {u : Nat × Nat × Nat} {r : Int32} (C : gC p (g_rmx (1330 + 4 * fu + 2) u.2.1 u.2.2) s m args meth c cX6_wheelFound RX6 4 D g (va_A (gw g ad0 ln0 A0 N) s.heap.size) (1330 + 4 * fu + 2)) (hr : meth.sig.returnType = some .int)  {cp k n : Nat} (hch : g_chg N ad0 ln0 ad ln cp) {A : gM} {x1 : Int32} {s0 : Int32} (h : mX6_wheelFound_b4 N cp k n rec A x1 s0 = some (A', u, r)) : gJ p l e (g_rmx (1330 + 4 * fu + 2) u.2.1 u.2.2) s m args below meth c (gEAi below D g N ad0 ln0 A0 A' u r args s) 4 D g (va_A (gw g ad0 ln0 A0 N) s.heap.size) N ad ln A [(0, gr 183), (1, gi x1)] k n 4 [gi s0] := by
  have hkn := oX6_wheelFound_b4 h
  unfold mX6_wheelFound_b4 at h
  refine g_istore_n C dX6_wheelFound_4 (by decide) rfl ?_
  refine g_aload_n C 1 dX6_wheelFound_5 rfl ?_
  refine g_aload_n C 1 dX6_wheelFound_6 rfl ?_
  refine g_iload_n C 2 dX6_wheelFound_7 rfl ?_
  refine g_iconst (v := 1) C dX6_wheelFound_8 (by decide) ?_
  obtain ⟨q1, eq1, h⟩ := g_bd h
  refine g_calliV C 183 [gi x1, gi 1] (kX6_pa hN hch.2 eq1) qs_X6_46 (by omega) (by omega) rfl rfl rfl rfl (Nat.le_of_ble_eq_true rfl) hkn dX6_wheelFound_9 ?_
  refine g_aload_n C 1 dX6_wheelFound_12 rfl ?_
  refine g_iload_n C 2 dX6_wheelFound_13 rfl ?_
  refine g_iconst (v := 4) C dX6_wheelFound_14 (by decide) ?_
  obtain ⟨q2, eq2, h⟩ := g_bd h
  refine g_calliV C 183 [gi x1, gi 4] (kX6_pa hN hch.2 eq2) qs_X6_46 (by omega) (by omega) rfl rfl rfl rfl (Nat.le_of_ble_eq_true rfl) hkn dX6_wheelFound_15 ?_
  refine g_iload_n C 0 dX6_wheelFound_18 rfl ?_
  obtain ⟨q3, eq3, h⟩ := g_bd h
  have mo := oX6_wheelFound_b22 h
  refine g_callAiV C 183 [gi q1.2, gi q2.2, gi s0] (kX6_inside hN hrec hch.2 eq3) qs_X6_142 (by omega) (by omega) rfl rfl rfl rfl (Nat.le_of_ble_eq_true rfl) ⟨mo.1, mo.2⟩ (And.intro ⟨by omega, by omega⟩ True.intro) True.intro dX6_wheelFound_19 (fun ad1 ln1 hch1 => ?_)
  have hch := g_chg.trans (by omega) hch hch1
  refine g_sub [1, 0] rfl ?_
  exact wX6_wheelFound_b22 hN hrec C hr hch h

set_option maxHeartbeats 2000000 in
set_option maxRecDepth 20000 in
theorem oX6_wheelFound_b0 {N : Nat} {rec : Nat → gM → Int32 → Option (gM × (Nat × Nat × Nat) × Int32)} {A' : gM} {u : Nat × Nat × Nat} {r : Int32}  {cp k n : Nat} {A : gM} {x1 : Int32} (h : mX6_wheelFound_b0 N cp k n rec A x1 = some (A', u, r)) : k ≤ u.2.1 ∧ n ≤ u.2.2 := by
  unfold mX6_wheelFound_b0 at h
  obtain ⟨q1, eq1, h⟩ := g_bd h
  have mo := oX6_wheelFound_b4 h
  exact ⟨by omega, by omega⟩

set_option maxHeartbeats 2000000 in
set_option maxRecDepth 20000 in
theorem wX6_wheelFound_b0 (hN : 193 ≤ N)  {rec : Nat → gM → Int32 → Option (gM × (Nat × Nat × Nat) × Int32)} {fu : Nat} (hrec : ∀ {ad ln : Nat → Nat} {cp : Nat} (_ : g_cap ln cp) {A A' : gM} {x1 : Int32} {u : Nat × Nat × Nat} {r : Int32}, rec cp A x1 = some (A', u, r) → gAi l yX6_found cX6_found 3 (some .int) (1330 + 4 * fu) D g N ad ln A [gr 183, gi x1] A' u r) {A0 A' : gM} {u : Nat × Nat × Nat} {r : Int32} (C : gC p (g_rmx (1330 + 4 * fu + 2) u.2.1 u.2.2) s m args meth c cX6_wheelFound RX6 4 D g (va_A (gw g ad0 ln0 A0 N) s.heap.size) (1330 + 4 * fu + 2)) (hr : meth.sig.returnType = some .int)  {cp k n : Nat} (hch : g_chg N ad0 ln0 ad ln cp) {A : gM} {x1 : Int32} (h : mX6_wheelFound_b0 N cp k n rec A x1 = some (A', u, r)) : gJ p l e (g_rmx (1330 + 4 * fu + 2) u.2.1 u.2.2) s m args below meth c (gEAi below D g N ad0 ln0 A0 A' u r args s) 4 D g (va_A (gw g ad0 ln0 A0 N) s.heap.size) N ad ln A [(0, gr 183), (1, gi x1)] k n 0 [] := by
  have hkn := oX6_wheelFound_b0 h
  unfold mX6_wheelFound_b0 at h
  refine g_aload_n C 0 dX6_wheelFound_0 rfl ?_
  obtain ⟨q1, eq1, h⟩ := g_bd h
  have mo := oX6_wheelFound_b4 h
  refine g_callAiV C 183 [] (kX6_variable hN hch.2 eq1) qs_X6_135 (by omega) (by omega) rfl rfl rfl rfl (Nat.le_of_ble_eq_true rfl) ⟨mo.1, mo.2⟩ (And.intro ⟨by omega, by omega⟩ True.intro) True.intro dX6_wheelFound_1 (fun ad1 ln1 hch1 => ?_)
  have hch := g_chg.trans (by omega) hch hch1
  refine g_sub [0, 1] rfl ?_
  exact wX6_wheelFound_b4 hN hrec C hr hch h

set_option maxHeartbeats 2000000 in
set_option maxRecDepth 20000 in
theorem kX6_wheelFound {l : Launch} {D : va_G} {g : gT} {N : Nat} (hN : 193 ≤ N) {rec : Nat → gM → Int32 → Option (gM × (Nat × Nat × Nat) × Int32)} {fu : Nat} (hrec : ∀ {ad ln : Nat → Nat} {cp : Nat} (_ : g_cap ln cp) {A A' : gM} {x1 : Int32} {u : Nat × Nat × Nat} {r : Int32}, rec cp A x1 = some (A', u, r) → gAi l yX6_found cX6_found 3 (some .int) (1330 + 4 * fu) D g N ad ln A [gr 183, gi x1] A' u r) {ad ln : Nat → Nat} {cp : Nat} (hcp : g_cap ln cp) {A A' : gM} {x1 : Int32} {u : Nat × Nat × Nat} {r : Int32} (h : mX6_wheelFound N cp rec A x1 = some (A', u, r)) : gAi l yX6_wheelFound cX6_wheelFound 4 (some .int) ((1330 + 4 * fu + 2)) D g N ad ln A [gr 183, gi x1] A' u r := by
  refine g_metAi (by decide) (Nat.le_of_ble_eq_true rfl) ?_
  intro p e s m args below meth c C hr
  refine g_sub [0, 1] rfl ?_
  exact wX6_wheelFound_b0 hN hrec C hr (g_chg.rf hcp) h
def mX6_turningFound_b65 (N cp k n : Nat) (rec : Nat → gM → Int32 → Option (gM × (Nat × Nat × Nat) × Int32)) (A : gM) (s0 : Int32) : Option (gM × (Nat × Nat × Nat) × Int32) :=
  some (A, (cp, k, n), s0)
def mX6_turningFound_b52 (N cp k n : Nat) (rec : Nat → gM → Int32 → Option (gM × (Nat × Nat × Nat) × Int32)) (A : gM) (x1 : Int32) (x4 : Int32) (s1 : Int32) (s2 : Int32) : Option (gM × (Nat × Nat × Nat) × Int32) :=
  (mX6_join cp 1250 A s1 s2 x1).bind fun q1 =>
  if q1.2 = 0 then
  mX6_turningFound_b65 N cp k n rec q1.1 (-1)
  else
  mX6_turningFound_b65 N cp k n rec q1.1 x4
def mX6_turningFound_b40 (N cp k n : Nat) (rec : Nat → gM → Int32 → Option (gM × (Nat × Nat × Nat) × Int32)) (A : gM) (x1 : Int32) (x2 : Int32) (x3 : Int32) (s0 : Int32) : Option (gM × (Nat × Nat × Nat) × Int32) :=
  (mX6_node N cp A 2 x3 s0).bind fun q1 =>
  mX6_turningFound_b52 N q1.2.1.1 (k + q1.2.1.2.1) (n + q1.2.1.2.2) rec q1.1 x1 s0 x2 q1.2.2
def mX6_turningFound_b28 (N cp k n : Nat) (rec : Nat → gM → Int32 → Option (gM × (Nat × Nat × Nat) × Int32)) (A : gM) (x1 : Int32) (x2 : Int32) (s0 : Int32) : Option (gM × (Nat × Nat × Nat) × Int32) :=
  if s0 = (-1) then
  some (A, (cp, k, n), (-1))
  else
  (mX6_variable N cp A).bind fun q2 =>
  mX6_turningFound_b40 N q2.2.1.1 (k + q2.2.1.2.1) (n + q2.2.1.2.2) rec q2.1 x1 x2 s0 q2.2.2
def mX6_turningFound_b10 (N cp k n : Nat) (rec : Nat → gM → Int32 → Option (gM × (Nat × Nat × Nat) × Int32)) (A : gM) (x1 : Int32) (s0 : Int32) : Option (gM × (Nat × Nat × Nat) × Int32) :=
  if s0 = (-1) then
  some (A, (cp, k, n), (-1))
  else
  (mX6_pa cp A x1 2).bind fun q2 =>
  (rec cp q2.1 q2.2).bind fun q3 =>
  mX6_turningFound_b28 N q3.2.1.1 (k + q3.2.1.2.1) (n + q3.2.1.2.2) rec q3.1 x1 s0 q3.2.2
def mX6_turningFound_b0 (N cp k n : Nat) (rec : Nat → gM → Int32 → Option (gM × (Nat × Nat × Nat) × Int32)) (A : gM) (x1 : Int32) : Option (gM × (Nat × Nat × Nat) × Int32) :=
  (mX6_pa cp A x1 1).bind fun q1 =>
  (rec cp q1.1 q1.2).bind fun q2 =>
  mX6_turningFound_b10 N q2.2.1.1 (k + q2.2.1.2.1) (n + q2.2.1.2.2) rec q2.1 x1 q2.2.2
def mX6_turningFound (N cp : Nat) (rec : Nat → gM → Int32 → Option (gM × (Nat × Nat × Nat) × Int32)) (A : gM) (x1 : Int32) : Option (gM × (Nat × Nat × Nat) × Int32) := mX6_turningFound_b0 N cp 0 0 rec A x1
set_option maxHeartbeats 2000000 in
set_option maxRecDepth 20000 in
theorem oX6_turningFound_b65 {N : Nat} {rec : Nat → gM → Int32 → Option (gM × (Nat × Nat × Nat) × Int32)} {A' : gM} {u : Nat × Nat × Nat} {r : Int32}  {cp k n : Nat} {A : gM} {s0 : Int32} (h : mX6_turningFound_b65 N cp k n rec A s0 = some (A', u, r)) : k ≤ u.2.1 ∧ n ≤ u.2.2 := by
  unfold mX6_turningFound_b65 at h
  obtain ⟨rfl, h2⟩ := Prod.mk.inj (Option.some.inj h)
  obtain ⟨rfl, rfl⟩ := Prod.mk.inj h2
  exact ⟨Nat.le_refl _, Nat.le_refl _⟩

set_option maxHeartbeats 2000000 in
set_option maxRecDepth 20000 in
theorem wX6_turningFound_b65 (hN : 193 ≤ N)  {rec : Nat → gM → Int32 → Option (gM × (Nat × Nat × Nat) × Int32)} {fu : Nat} (hrec : ∀ {ad ln : Nat → Nat} {cp : Nat} (_ : g_cap ln cp) {A A' : gM} {x1 : Int32} {u : Nat × Nat × Nat} {r : Int32}, rec cp A x1 = some (A', u, r) → gAi l yX6_found cX6_found 3 (some .int) (1330 + 4 * fu) D g N ad ln A [gr 183, gi x1] A' u r) {A0 A' : gM} {u : Nat × Nat × Nat} {r : Int32} (C : gC p (g_rmx (1330 + 4 * fu + 2) u.2.1 u.2.2) s m args meth c cX6_turningFound RX6 5 D g (va_A (gw g ad0 ln0 A0 N) s.heap.size) (1330 + 4 * fu + 2)) (hr : meth.sig.returnType = some .int)  {cp k n : Nat} (hch : g_chg N ad0 ln0 ad ln cp) {A : gM} {s0 : Int32} (h : mX6_turningFound_b65 N cp k n rec A s0 = some (A', u, r)) : gJ p l e (g_rmx (1330 + 4 * fu + 2) u.2.1 u.2.2) s m args below meth c (gEAi below D g N ad0 ln0 A0 A' u r args s) 5 D g (va_A (gw g ad0 ln0 A0 N) s.heap.size) N ad ln A [] k n 65 [gi s0] := by
  have hkn := oX6_turningFound_b65 h
  unfold mX6_turningFound_b65 at h
  obtain ⟨rfl, h2⟩ := Prod.mk.inj (Option.some.inj h)
  obtain ⟨rfl, rfl⟩ := Prod.mk.inj h2
  exact g_retAi C hch hr dX6_turningFound_65

set_option maxHeartbeats 2000000 in
set_option maxRecDepth 20000 in
theorem oX6_turningFound_b52 {N : Nat} {rec : Nat → gM → Int32 → Option (gM × (Nat × Nat × Nat) × Int32)} {A' : gM} {u : Nat × Nat × Nat} {r : Int32}  {cp k n : Nat} {A : gM} {x1 : Int32} {x4 : Int32} {s1 : Int32} {s2 : Int32} (h : mX6_turningFound_b52 N cp k n rec A x1 x4 s1 s2 = some (A', u, r)) : k ≤ u.2.1 ∧ n ≤ u.2.2 := by
  unfold mX6_turningFound_b52 at h
  obtain ⟨q1, eq1, h⟩ := g_bd h
  by_cases c2 : q1.2 = 0
  · have h := g_tt c2 h
    exact oX6_turningFound_b65 h
  · have h := g_ff c2 h
    exact oX6_turningFound_b65 h

set_option maxHeartbeats 2000000 in
set_option maxRecDepth 20000 in
theorem wX6_turningFound_b52 (hN : 193 ≤ N)  {rec : Nat → gM → Int32 → Option (gM × (Nat × Nat × Nat) × Int32)} {fu : Nat} (hrec : ∀ {ad ln : Nat → Nat} {cp : Nat} (_ : g_cap ln cp) {A A' : gM} {x1 : Int32} {u : Nat × Nat × Nat} {r : Int32}, rec cp A x1 = some (A', u, r) → gAi l yX6_found cX6_found 3 (some .int) (1330 + 4 * fu) D g N ad ln A [gr 183, gi x1] A' u r) {A0 A' : gM} {u : Nat × Nat × Nat} {r : Int32} (C : gC p (g_rmx (1330 + 4 * fu + 2) u.2.1 u.2.2) s m args meth c cX6_turningFound RX6 5 D g (va_A (gw g ad0 ln0 A0 N) s.heap.size) (1330 + 4 * fu + 2)) (hr : meth.sig.returnType = some .int)  {cp k n : Nat} (hch : g_chg N ad0 ln0 ad ln cp) {A : gM} {x1 : Int32} {x4 : Int32} {s1 : Int32} {s2 : Int32} (h : mX6_turningFound_b52 N cp k n rec A x1 x4 s1 s2 = some (A', u, r)) : gJ p l e (g_rmx (1330 + 4 * fu + 2) u.2.1 u.2.2) s m args below meth c (gEAi below D g N ad0 ln0 A0 A' u r args s) 5 D g (va_A (gw g ad0 ln0 A0 N) s.heap.size) N ad ln A [(1, gi x1), (4, gi x4)] k n 52 [gi s2, gi s1, gr 183] := by
  have hkn := oX6_turningFound_b52 h
  unfold mX6_turningFound_b52 at h
  refine g_iload_n C 0 dX6_turningFound_52 rfl ?_
  obtain ⟨q1, eq1, h⟩ := g_bd h
  refine g_calliV C 183 [gi s1, gi s2, gi x1] (kX6_join hN hch.2 1250 eq1) qs_X6_108 (by omega) (by omega) rfl rfl rfl rfl (Nat.le_of_ble_eq_true rfl) hkn dX6_turningFound_53 ?_
  refine g_if_eq C dX6_turningFound_56 (tgt := 64) (by decide) (fun c2 => ?_) (fun c2 => ?_)
  · have h := g_tt c2 h
    refine g_iconst (v := (-1)) C dX6_turningFound_64 (by decide) ?_
    refine g_sub [] rfl ?_
    exact wX6_turningFound_b65 hN hrec C hr hch h
  · have h := g_ff c2 h
    refine g_iload C 1 dX6_turningFound_59 rfl ?_
    refine g_goto C dX6_turningFound_61 (tgt := 65) (by decide) ?_
    refine g_sub [] rfl ?_
    exact wX6_turningFound_b65 hN hrec C hr hch h

set_option maxHeartbeats 2000000 in
set_option maxRecDepth 20000 in
theorem oX6_turningFound_b40 {N : Nat} {rec : Nat → gM → Int32 → Option (gM × (Nat × Nat × Nat) × Int32)} {A' : gM} {u : Nat × Nat × Nat} {r : Int32}  {cp k n : Nat} {A : gM} {x1 : Int32} {x2 : Int32} {x3 : Int32} {s0 : Int32} (h : mX6_turningFound_b40 N cp k n rec A x1 x2 x3 s0 = some (A', u, r)) : k ≤ u.2.1 ∧ n ≤ u.2.2 := by
  unfold mX6_turningFound_b40 at h
  obtain ⟨q1, eq1, h⟩ := g_bd h
  have mo := oX6_turningFound_b52 h
  exact ⟨by omega, by omega⟩

set_option maxHeartbeats 2000000 in
set_option maxRecDepth 20000 in
theorem wX6_turningFound_b40 (hN : 193 ≤ N)  {rec : Nat → gM → Int32 → Option (gM × (Nat × Nat × Nat) × Int32)} {fu : Nat} (hrec : ∀ {ad ln : Nat → Nat} {cp : Nat} (_ : g_cap ln cp) {A A' : gM} {x1 : Int32} {u : Nat × Nat × Nat} {r : Int32}, rec cp A x1 = some (A', u, r) → gAi l yX6_found cX6_found 3 (some .int) (1330 + 4 * fu) D g N ad ln A [gr 183, gi x1] A' u r) {A0 A' : gM} {u : Nat × Nat × Nat} {r : Int32} (C : gC p (g_rmx (1330 + 4 * fu + 2) u.2.1 u.2.2) s m args meth c cX6_turningFound RX6 5 D g (va_A (gw g ad0 ln0 A0 N) s.heap.size) (1330 + 4 * fu + 2)) (hr : meth.sig.returnType = some .int)  {cp k n : Nat} (hch : g_chg N ad0 ln0 ad ln cp) {A : gM} {x1 : Int32} {x2 : Int32} {x3 : Int32} {s0 : Int32} (h : mX6_turningFound_b40 N cp k n rec A x1 x2 x3 s0 = some (A', u, r)) : gJ p l e (g_rmx (1330 + 4 * fu + 2) u.2.1 u.2.2) s m args below meth c (gEAi below D g N ad0 ln0 A0 A' u r args s) 5 D g (va_A (gw g ad0 ln0 A0 N) s.heap.size) N ad ln A [(0, gr 183), (1, gi x1), (2, gi x2), (3, gi x3)] k n 40 [gi s0] := by
  have hkn := oX6_turningFound_b40 h
  unfold mX6_turningFound_b40 at h
  refine g_istore C dX6_turningFound_40 (by decide) rfl ?_
  refine g_aload_n C 1 dX6_turningFound_42 rfl ?_
  refine g_iload_n C 3 dX6_turningFound_43 rfl ?_
  refine g_aload_n C 1 dX6_turningFound_44 rfl ?_
  refine g_iconst (v := 2) C dX6_turningFound_45 (by decide) ?_
  refine g_iload_n C 4 dX6_turningFound_46 rfl ?_
  refine g_iload C 0 dX6_turningFound_47 rfl ?_
  obtain ⟨q1, eq1, h⟩ := g_bd h
  have mo := oX6_turningFound_b52 h
  refine g_callAiV C 183 [gi 2, gi x3, gi s0] (kX6_node hN hch.2 eq1) qs_X6_85 (by omega) (by omega) rfl rfl rfl rfl (Nat.le_of_ble_eq_true rfl) ⟨mo.1, mo.2⟩ (And.intro ⟨by omega, by omega⟩ True.intro) (And.intro ⟨by omega, by omega⟩ True.intro) dX6_turningFound_49 (fun ad1 ln1 hch1 => ?_)
  have hch := g_chg.trans (by omega) hch hch1
  refine g_sub [2, 0] rfl ?_
  exact wX6_turningFound_b52 hN hrec C hr hch h

set_option maxHeartbeats 2000000 in
set_option maxRecDepth 20000 in
theorem oX6_turningFound_b28 {N : Nat} {rec : Nat → gM → Int32 → Option (gM × (Nat × Nat × Nat) × Int32)} {A' : gM} {u : Nat × Nat × Nat} {r : Int32}  {cp k n : Nat} {A : gM} {x1 : Int32} {x2 : Int32} {s0 : Int32} (h : mX6_turningFound_b28 N cp k n rec A x1 x2 s0 = some (A', u, r)) : k ≤ u.2.1 ∧ n ≤ u.2.2 := by
  unfold mX6_turningFound_b28 at h
  by_cases c1 : s0 = (-1)
  · have h := g_tt c1 h
    obtain ⟨rfl, h2⟩ := Prod.mk.inj (Option.some.inj h)
    obtain ⟨rfl, rfl⟩ := Prod.mk.inj h2
    exact ⟨Nat.le_refl _, Nat.le_refl _⟩
  · have h := g_ff c1 h
    obtain ⟨q2, eq2, h⟩ := g_bd h
    have mo := oX6_turningFound_b40 h
    exact ⟨by omega, by omega⟩

set_option maxHeartbeats 2000000 in
set_option maxRecDepth 20000 in
theorem wX6_turningFound_b28 (hN : 193 ≤ N)  {rec : Nat → gM → Int32 → Option (gM × (Nat × Nat × Nat) × Int32)} {fu : Nat} (hrec : ∀ {ad ln : Nat → Nat} {cp : Nat} (_ : g_cap ln cp) {A A' : gM} {x1 : Int32} {u : Nat × Nat × Nat} {r : Int32}, rec cp A x1 = some (A', u, r) → gAi l yX6_found cX6_found 3 (some .int) (1330 + 4 * fu) D g N ad ln A [gr 183, gi x1] A' u r) {A0 A' : gM} {u : Nat × Nat × Nat} {r : Int32} (C : gC p (g_rmx (1330 + 4 * fu + 2) u.2.1 u.2.2) s m args meth c cX6_turningFound RX6 5 D g (va_A (gw g ad0 ln0 A0 N) s.heap.size) (1330 + 4 * fu + 2)) (hr : meth.sig.returnType = some .int)  {cp k n : Nat} (hch : g_chg N ad0 ln0 ad ln cp) {A : gM} {x1 : Int32} {x2 : Int32} {s0 : Int32} (h : mX6_turningFound_b28 N cp k n rec A x1 x2 s0 = some (A', u, r)) : gJ p l e (g_rmx (1330 + 4 * fu + 2) u.2.1 u.2.2) s m args below meth c (gEAi below D g N ad0 ln0 A0 A' u r args s) 5 D g (va_A (gw g ad0 ln0 A0 N) s.heap.size) N ad ln A [(0, gr 183), (1, gi x1), (2, gi x2)] k n 28 [gi s0] := by
  have hkn := oX6_turningFound_b28 h
  unfold mX6_turningFound_b28 at h
  refine g_istore_n C dX6_turningFound_28 (by decide) rfl ?_
  refine g_iload_n C 0 dX6_turningFound_29 rfl ?_
  refine g_iconst (v := (-1)) C dX6_turningFound_30 (by decide) ?_
  refine g_icmp_ne C dX6_turningFound_31 (tgt := 36) (by decide) (fun c1 => ?_) (fun c1 => ?_)
  · have h := g_ff c1 h
    refine g_aload_n C 1 dX6_turningFound_36 rfl ?_
    obtain ⟨q2, eq2, h⟩ := g_bd h
    have mo := oX6_turningFound_b40 h
    refine g_callAiV C 183 [] (kX6_variable hN hch.2 eq2) qs_X6_135 (by omega) (by omega) rfl rfl rfl rfl (Nat.le_of_ble_eq_true rfl) ⟨mo.1, mo.2⟩ (And.intro ⟨by omega, by omega⟩ True.intro) True.intro dX6_turningFound_37 (fun ad1 ln1 hch1 => ?_)
    have hch := g_chg.trans (by omega) hch hch1
    refine g_sub [1, 2, 3, 0] rfl ?_
    exact wX6_turningFound_b40 hN hrec C hr hch h
  · have h := g_tt c1 h
    refine g_iconst (v := (-1)) C dX6_turningFound_34 (by decide) ?_
    obtain ⟨rfl, h2⟩ := Prod.mk.inj (Option.some.inj h)
    obtain ⟨rfl, rfl⟩ := Prod.mk.inj h2
    exact g_retAi C hch hr dX6_turningFound_35

set_option maxHeartbeats 2000000 in
set_option maxRecDepth 20000 in
theorem oX6_turningFound_b10 {N : Nat} {rec : Nat → gM → Int32 → Option (gM × (Nat × Nat × Nat) × Int32)} {A' : gM} {u : Nat × Nat × Nat} {r : Int32}  {cp k n : Nat} {A : gM} {x1 : Int32} {s0 : Int32} (h : mX6_turningFound_b10 N cp k n rec A x1 s0 = some (A', u, r)) : k ≤ u.2.1 ∧ n ≤ u.2.2 := by
  unfold mX6_turningFound_b10 at h
  by_cases c1 : s0 = (-1)
  · have h := g_tt c1 h
    obtain ⟨rfl, h2⟩ := Prod.mk.inj (Option.some.inj h)
    obtain ⟨rfl, rfl⟩ := Prod.mk.inj h2
    exact ⟨Nat.le_refl _, Nat.le_refl _⟩
  · have h := g_ff c1 h
    obtain ⟨q2, eq2, h⟩ := g_bd h
    obtain ⟨q3, eq3, h⟩ := g_bd h
    have mo := oX6_turningFound_b28 h
    exact ⟨by omega, by omega⟩

set_option maxHeartbeats 2000000 in
set_option maxRecDepth 20000 in
theorem wX6_turningFound_b10 (hN : 193 ≤ N)  {rec : Nat → gM → Int32 → Option (gM × (Nat × Nat × Nat) × Int32)} {fu : Nat} (hrec : ∀ {ad ln : Nat → Nat} {cp : Nat} (_ : g_cap ln cp) {A A' : gM} {x1 : Int32} {u : Nat × Nat × Nat} {r : Int32}, rec cp A x1 = some (A', u, r) → gAi l yX6_found cX6_found 3 (some .int) (1330 + 4 * fu) D g N ad ln A [gr 183, gi x1] A' u r) {A0 A' : gM} {u : Nat × Nat × Nat} {r : Int32} (C : gC p (g_rmx (1330 + 4 * fu + 2) u.2.1 u.2.2) s m args meth c cX6_turningFound RX6 5 D g (va_A (gw g ad0 ln0 A0 N) s.heap.size) (1330 + 4 * fu + 2)) (hr : meth.sig.returnType = some .int)  {cp k n : Nat} (hch : g_chg N ad0 ln0 ad ln cp) {A : gM} {x1 : Int32} {s0 : Int32} (h : mX6_turningFound_b10 N cp k n rec A x1 s0 = some (A', u, r)) : gJ p l e (g_rmx (1330 + 4 * fu + 2) u.2.1 u.2.2) s m args below meth c (gEAi below D g N ad0 ln0 A0 A' u r args s) 5 D g (va_A (gw g ad0 ln0 A0 N) s.heap.size) N ad ln A [(0, gr 183), (1, gi x1)] k n 10 [gi s0] := by
  have hkn := oX6_turningFound_b10 h
  unfold mX6_turningFound_b10 at h
  refine g_istore_n C dX6_turningFound_10 (by decide) rfl ?_
  refine g_iload_n C 0 dX6_turningFound_11 rfl ?_
  refine g_iconst (v := (-1)) C dX6_turningFound_12 (by decide) ?_
  refine g_icmp_ne C dX6_turningFound_13 (tgt := 18) (by decide) (fun c1 => ?_) (fun c1 => ?_)
  · have h := g_ff c1 h
    refine g_aload_n C 1 dX6_turningFound_18 rfl ?_
    refine g_aload_n C 1 dX6_turningFound_19 rfl ?_
    refine g_iload_n C 2 dX6_turningFound_20 rfl ?_
    refine g_iconst (v := 2) C dX6_turningFound_21 (by decide) ?_
    obtain ⟨q2, eq2, h⟩ := g_bd h
    refine g_calliV C 183 [gi x1, gi 2] (kX6_pa hN hch.2 eq2) qs_X6_46 (by omega) (by omega) rfl rfl rfl rfl (Nat.le_of_ble_eq_true rfl) hkn dX6_turningFound_22 ?_
    obtain ⟨q3, eq3, h⟩ := g_bd h
    have mo := oX6_turningFound_b28 h
    refine g_callAiV C 183 [gi q2.2] (hrec hch.2 eq3) qs_X6_139 (by omega) (by omega) rfl rfl rfl rfl (Nat.le_of_ble_eq_true rfl) ⟨mo.1, mo.2⟩ (And.intro ⟨by omega, by omega⟩ True.intro) True.intro dX6_turningFound_25 (fun ad1 ln1 hch1 => ?_)
    have hch := g_chg.trans (by omega) hch hch1
    refine g_sub [1, 2, 0] rfl ?_
    exact wX6_turningFound_b28 hN hrec C hr hch h
  · have h := g_tt c1 h
    refine g_iconst (v := (-1)) C dX6_turningFound_16 (by decide) ?_
    obtain ⟨rfl, h2⟩ := Prod.mk.inj (Option.some.inj h)
    obtain ⟨rfl, rfl⟩ := Prod.mk.inj h2
    exact g_retAi C hch hr dX6_turningFound_17

set_option maxHeartbeats 2000000 in
set_option maxRecDepth 20000 in
theorem oX6_turningFound_b0 {N : Nat} {rec : Nat → gM → Int32 → Option (gM × (Nat × Nat × Nat) × Int32)} {A' : gM} {u : Nat × Nat × Nat} {r : Int32}  {cp k n : Nat} {A : gM} {x1 : Int32} (h : mX6_turningFound_b0 N cp k n rec A x1 = some (A', u, r)) : k ≤ u.2.1 ∧ n ≤ u.2.2 := by
  unfold mX6_turningFound_b0 at h
  obtain ⟨q1, eq1, h⟩ := g_bd h
  obtain ⟨q2, eq2, h⟩ := g_bd h
  have mo := oX6_turningFound_b10 h
  exact ⟨by omega, by omega⟩

set_option maxHeartbeats 2000000 in
set_option maxRecDepth 20000 in
theorem wX6_turningFound_b0 (hN : 193 ≤ N)  {rec : Nat → gM → Int32 → Option (gM × (Nat × Nat × Nat) × Int32)} {fu : Nat} (hrec : ∀ {ad ln : Nat → Nat} {cp : Nat} (_ : g_cap ln cp) {A A' : gM} {x1 : Int32} {u : Nat × Nat × Nat} {r : Int32}, rec cp A x1 = some (A', u, r) → gAi l yX6_found cX6_found 3 (some .int) (1330 + 4 * fu) D g N ad ln A [gr 183, gi x1] A' u r) {A0 A' : gM} {u : Nat × Nat × Nat} {r : Int32} (C : gC p (g_rmx (1330 + 4 * fu + 2) u.2.1 u.2.2) s m args meth c cX6_turningFound RX6 5 D g (va_A (gw g ad0 ln0 A0 N) s.heap.size) (1330 + 4 * fu + 2)) (hr : meth.sig.returnType = some .int)  {cp k n : Nat} (hch : g_chg N ad0 ln0 ad ln cp) {A : gM} {x1 : Int32} (h : mX6_turningFound_b0 N cp k n rec A x1 = some (A', u, r)) : gJ p l e (g_rmx (1330 + 4 * fu + 2) u.2.1 u.2.2) s m args below meth c (gEAi below D g N ad0 ln0 A0 A' u r args s) 5 D g (va_A (gw g ad0 ln0 A0 N) s.heap.size) N ad ln A [(0, gr 183), (1, gi x1)] k n 0 [] := by
  have hkn := oX6_turningFound_b0 h
  unfold mX6_turningFound_b0 at h
  refine g_aload_n C 0 dX6_turningFound_0 rfl ?_
  refine g_aload_n C 0 dX6_turningFound_1 rfl ?_
  refine g_iload_n C 1 dX6_turningFound_2 rfl ?_
  refine g_iconst (v := 1) C dX6_turningFound_3 (by decide) ?_
  obtain ⟨q1, eq1, h⟩ := g_bd h
  refine g_calliV C 183 [gi x1, gi 1] (kX6_pa hN hch.2 eq1) qs_X6_46 (by omega) (by omega) rfl rfl rfl rfl (Nat.le_of_ble_eq_true rfl) hkn dX6_turningFound_4 ?_
  obtain ⟨q2, eq2, h⟩ := g_bd h
  have mo := oX6_turningFound_b10 h
  refine g_callAiV C 183 [gi q1.2] (hrec hch.2 eq2) qs_X6_139 (by omega) (by omega) rfl rfl rfl rfl (Nat.le_of_ble_eq_true rfl) ⟨mo.1, mo.2⟩ (And.intro ⟨by omega, by omega⟩ True.intro) True.intro dX6_turningFound_7 (fun ad1 ln1 hch1 => ?_)
  have hch := g_chg.trans (by omega) hch hch1
  refine g_sub [0, 1] rfl ?_
  exact wX6_turningFound_b10 hN hrec C hr hch h

set_option maxHeartbeats 2000000 in
set_option maxRecDepth 20000 in
theorem kX6_turningFound {l : Launch} {D : va_G} {g : gT} {N : Nat} (hN : 193 ≤ N) {rec : Nat → gM → Int32 → Option (gM × (Nat × Nat × Nat) × Int32)} {fu : Nat} (hrec : ∀ {ad ln : Nat → Nat} {cp : Nat} (_ : g_cap ln cp) {A A' : gM} {x1 : Int32} {u : Nat × Nat × Nat} {r : Int32}, rec cp A x1 = some (A', u, r) → gAi l yX6_found cX6_found 3 (some .int) (1330 + 4 * fu) D g N ad ln A [gr 183, gi x1] A' u r) {ad ln : Nat → Nat} {cp : Nat} (hcp : g_cap ln cp) {A A' : gM} {x1 : Int32} {u : Nat × Nat × Nat} {r : Int32} (h : mX6_turningFound N cp rec A x1 = some (A', u, r)) : gAi l yX6_turningFound cX6_turningFound 5 (some .int) ((1330 + 4 * fu + 2)) D g N ad ln A [gr 183, gi x1] A' u r := by
  refine g_metAi (by decide) (Nat.le_of_ble_eq_true rfl) ?_
  intro p e s m args below meth c C hr
  refine g_sub [0, 1] rfl ?_
  exact wX6_turningFound_b0 hN hrec C hr (g_chg.rf hcp) h
def mX6_tellingFound_b40 (N cp k n : Nat) (rec : Nat → gM → Int32 → Option (gM × (Nat × Nat × Nat) × Int32)) (A : gM) (s0 : Int32) : Option (gM × (Nat × Nat × Nat) × Int32) :=
  some (A, (cp, k, n), s0)
def mX6_tellingFound_b10 (N cp k n : Nat) (rec : Nat → gM → Int32 → Option (gM × (Nat × Nat × Nat) × Int32)) (A : gM) (x1 : Int32) (s0 : Int32) : Option (gM × (Nat × Nat × Nat) × Int32) :=
  if s0 = (-1) then
  some (A, (cp, k, n), (-1))
  else
  (mX6_own cp 62 A s0).bind fun q2 =>
  (mX6_pa cp q2 x1 2).bind fun q3 =>
  (mX6_pa cp q3.1 x1 4).bind fun q4 =>
  (mX6_inside N cp rec q4.1 q3.2 q4.2 s0).bind fun q5 =>
  mX6_tellingFound_b40 N q5.2.1.1 (k + q5.2.1.2.1) (n + q5.2.1.2.2) rec q5.1 q5.2.2
def mX6_tellingFound_b0 (N cp k n : Nat) (rec : Nat → gM → Int32 → Option (gM × (Nat × Nat × Nat) × Int32)) (A : gM) (x1 : Int32) : Option (gM × (Nat × Nat × Nat) × Int32) :=
  (mX6_pa cp A x1 1).bind fun q1 =>
  (rec cp q1.1 q1.2).bind fun q2 =>
  mX6_tellingFound_b10 N q2.2.1.1 (k + q2.2.1.2.1) (n + q2.2.1.2.2) rec q2.1 x1 q2.2.2
def mX6_tellingFound (N cp : Nat) (rec : Nat → gM → Int32 → Option (gM × (Nat × Nat × Nat) × Int32)) (A : gM) (x1 : Int32) : Option (gM × (Nat × Nat × Nat) × Int32) := mX6_tellingFound_b0 N cp 0 0 rec A x1
set_option maxHeartbeats 2000000 in
set_option maxRecDepth 20000 in
theorem oX6_tellingFound_b40 {N : Nat} {rec : Nat → gM → Int32 → Option (gM × (Nat × Nat × Nat) × Int32)} {A' : gM} {u : Nat × Nat × Nat} {r : Int32}  {cp k n : Nat} {A : gM} {s0 : Int32} (h : mX6_tellingFound_b40 N cp k n rec A s0 = some (A', u, r)) : k ≤ u.2.1 ∧ n ≤ u.2.2 := by
  unfold mX6_tellingFound_b40 at h
  obtain ⟨rfl, h2⟩ := Prod.mk.inj (Option.some.inj h)
  obtain ⟨rfl, rfl⟩ := Prod.mk.inj h2
  exact ⟨Nat.le_refl _, Nat.le_refl _⟩

set_option maxHeartbeats 2000000 in
set_option maxRecDepth 20000 in
theorem wX6_tellingFound_b40 (hN : 193 ≤ N)  {rec : Nat → gM → Int32 → Option (gM × (Nat × Nat × Nat) × Int32)} {fu : Nat} (hrec : ∀ {ad ln : Nat → Nat} {cp : Nat} (_ : g_cap ln cp) {A A' : gM} {x1 : Int32} {u : Nat × Nat × Nat} {r : Int32}, rec cp A x1 = some (A', u, r) → gAi l yX6_found cX6_found 3 (some .int) (1330 + 4 * fu) D g N ad ln A [gr 183, gi x1] A' u r) {A0 A' : gM} {u : Nat × Nat × Nat} {r : Int32} (C : gC p (g_rmx (1330 + 4 * fu + 2) u.2.1 u.2.2) s m args meth c cX6_tellingFound RX6 3 D g (va_A (gw g ad0 ln0 A0 N) s.heap.size) (1330 + 4 * fu + 2)) (hr : meth.sig.returnType = some .int)  {cp k n : Nat} (hch : g_chg N ad0 ln0 ad ln cp) {A : gM} {s0 : Int32} (h : mX6_tellingFound_b40 N cp k n rec A s0 = some (A', u, r)) : gJ p l e (g_rmx (1330 + 4 * fu + 2) u.2.1 u.2.2) s m args below meth c (gEAi below D g N ad0 ln0 A0 A' u r args s) 3 D g (va_A (gw g ad0 ln0 A0 N) s.heap.size) N ad ln A [] k n 40 [gi s0] := by
  have hkn := oX6_tellingFound_b40 h
  unfold mX6_tellingFound_b40 at h
  obtain ⟨rfl, h2⟩ := Prod.mk.inj (Option.some.inj h)
  obtain ⟨rfl, rfl⟩ := Prod.mk.inj h2
  exact g_retAi C hch hr dX6_tellingFound_40

set_option maxHeartbeats 2000000 in
set_option maxRecDepth 20000 in
theorem oX6_tellingFound_b10 {N : Nat} {rec : Nat → gM → Int32 → Option (gM × (Nat × Nat × Nat) × Int32)} {A' : gM} {u : Nat × Nat × Nat} {r : Int32}  {cp k n : Nat} {A : gM} {x1 : Int32} {s0 : Int32} (h : mX6_tellingFound_b10 N cp k n rec A x1 s0 = some (A', u, r)) : k ≤ u.2.1 ∧ n ≤ u.2.2 := by
  unfold mX6_tellingFound_b10 at h
  by_cases c1 : s0 = (-1)
  · have h := g_tt c1 h
    obtain ⟨rfl, h2⟩ := Prod.mk.inj (Option.some.inj h)
    obtain ⟨rfl, rfl⟩ := Prod.mk.inj h2
    exact ⟨Nat.le_refl _, Nat.le_refl _⟩
  · have h := g_ff c1 h
    obtain ⟨q2, eq2, h⟩ := g_bd h
    obtain ⟨q3, eq3, h⟩ := g_bd h
    obtain ⟨q4, eq4, h⟩ := g_bd h
    obtain ⟨q5, eq5, h⟩ := g_bd h
    have mo := oX6_tellingFound_b40 h
    exact ⟨by omega, by omega⟩

set_option maxHeartbeats 2000000 in
set_option maxRecDepth 20000 in
theorem wX6_tellingFound_b10 (hN : 193 ≤ N)  {rec : Nat → gM → Int32 → Option (gM × (Nat × Nat × Nat) × Int32)} {fu : Nat} (hrec : ∀ {ad ln : Nat → Nat} {cp : Nat} (_ : g_cap ln cp) {A A' : gM} {x1 : Int32} {u : Nat × Nat × Nat} {r : Int32}, rec cp A x1 = some (A', u, r) → gAi l yX6_found cX6_found 3 (some .int) (1330 + 4 * fu) D g N ad ln A [gr 183, gi x1] A' u r) {A0 A' : gM} {u : Nat × Nat × Nat} {r : Int32} (C : gC p (g_rmx (1330 + 4 * fu + 2) u.2.1 u.2.2) s m args meth c cX6_tellingFound RX6 3 D g (va_A (gw g ad0 ln0 A0 N) s.heap.size) (1330 + 4 * fu + 2)) (hr : meth.sig.returnType = some .int)  {cp k n : Nat} (hch : g_chg N ad0 ln0 ad ln cp) {A : gM} {x1 : Int32} {s0 : Int32} (h : mX6_tellingFound_b10 N cp k n rec A x1 s0 = some (A', u, r)) : gJ p l e (g_rmx (1330 + 4 * fu + 2) u.2.1 u.2.2) s m args below meth c (gEAi below D g N ad0 ln0 A0 A' u r args s) 3 D g (va_A (gw g ad0 ln0 A0 N) s.heap.size) N ad ln A [(0, gr 183), (1, gi x1)] k n 10 [gi s0] := by
  have hkn := oX6_tellingFound_b10 h
  unfold mX6_tellingFound_b10 at h
  refine g_istore_n C dX6_tellingFound_10 (by decide) rfl ?_
  refine g_iload_n C 0 dX6_tellingFound_11 rfl ?_
  refine g_iconst (v := (-1)) C dX6_tellingFound_12 (by decide) ?_
  refine g_icmp_ne C dX6_tellingFound_13 (tgt := 18) (by decide) (fun c1 => ?_) (fun c1 => ?_)
  · have h := g_ff c1 h
    refine g_aload_n C 1 dX6_tellingFound_18 rfl ?_
    refine g_iload_n C 0 dX6_tellingFound_19 rfl ?_
    obtain ⟨q2, eq2, h⟩ := g_bd h
    refine g_callvV C 183 [gi s0] (kX6_own hN hch.2 62 eq2) qs_X6_122 (by omega) (by omega) rfl rfl rfl rfl (Nat.le_of_ble_eq_true rfl) hkn dX6_tellingFound_20 ?_
    refine g_aload_n C 1 dX6_tellingFound_23 rfl ?_
    refine g_aload_n C 1 dX6_tellingFound_24 rfl ?_
    refine g_iload_n C 2 dX6_tellingFound_25 rfl ?_
    refine g_iconst (v := 2) C dX6_tellingFound_26 (by decide) ?_
    obtain ⟨q3, eq3, h⟩ := g_bd h
    refine g_calliV C 183 [gi x1, gi 2] (kX6_pa hN hch.2 eq3) qs_X6_46 (by omega) (by omega) rfl rfl rfl rfl (Nat.le_of_ble_eq_true rfl) hkn dX6_tellingFound_27 ?_
    refine g_aload_n C 1 dX6_tellingFound_30 rfl ?_
    refine g_iload_n C 2 dX6_tellingFound_31 rfl ?_
    refine g_iconst (v := 4) C dX6_tellingFound_32 (by decide) ?_
    obtain ⟨q4, eq4, h⟩ := g_bd h
    refine g_calliV C 183 [gi x1, gi 4] (kX6_pa hN hch.2 eq4) qs_X6_46 (by omega) (by omega) rfl rfl rfl rfl (Nat.le_of_ble_eq_true rfl) hkn dX6_tellingFound_33 ?_
    refine g_iload_n C 0 dX6_tellingFound_36 rfl ?_
    obtain ⟨q5, eq5, h⟩ := g_bd h
    have mo := oX6_tellingFound_b40 h
    refine g_callAiV C 183 [gi q3.2, gi q4.2, gi s0] (kX6_inside hN hrec hch.2 eq5) qs_X6_142 (by omega) (by omega) rfl rfl rfl rfl (Nat.le_of_ble_eq_true rfl) ⟨mo.1, mo.2⟩ (And.intro ⟨by omega, by omega⟩ True.intro) True.intro dX6_tellingFound_37 (fun ad1 ln1 hch1 => ?_)
    have hch := g_chg.trans (by omega) hch hch1
    refine g_sub [] rfl ?_
    exact wX6_tellingFound_b40 hN hrec C hr hch h
  · have h := g_tt c1 h
    refine g_iconst (v := (-1)) C dX6_tellingFound_16 (by decide) ?_
    obtain ⟨rfl, h2⟩ := Prod.mk.inj (Option.some.inj h)
    obtain ⟨rfl, rfl⟩ := Prod.mk.inj h2
    exact g_retAi C hch hr dX6_tellingFound_17

set_option maxHeartbeats 2000000 in
set_option maxRecDepth 20000 in
theorem oX6_tellingFound_b0 {N : Nat} {rec : Nat → gM → Int32 → Option (gM × (Nat × Nat × Nat) × Int32)} {A' : gM} {u : Nat × Nat × Nat} {r : Int32}  {cp k n : Nat} {A : gM} {x1 : Int32} (h : mX6_tellingFound_b0 N cp k n rec A x1 = some (A', u, r)) : k ≤ u.2.1 ∧ n ≤ u.2.2 := by
  unfold mX6_tellingFound_b0 at h
  obtain ⟨q1, eq1, h⟩ := g_bd h
  obtain ⟨q2, eq2, h⟩ := g_bd h
  have mo := oX6_tellingFound_b10 h
  exact ⟨by omega, by omega⟩

set_option maxHeartbeats 2000000 in
set_option maxRecDepth 20000 in
theorem wX6_tellingFound_b0 (hN : 193 ≤ N)  {rec : Nat → gM → Int32 → Option (gM × (Nat × Nat × Nat) × Int32)} {fu : Nat} (hrec : ∀ {ad ln : Nat → Nat} {cp : Nat} (_ : g_cap ln cp) {A A' : gM} {x1 : Int32} {u : Nat × Nat × Nat} {r : Int32}, rec cp A x1 = some (A', u, r) → gAi l yX6_found cX6_found 3 (some .int) (1330 + 4 * fu) D g N ad ln A [gr 183, gi x1] A' u r) {A0 A' : gM} {u : Nat × Nat × Nat} {r : Int32} (C : gC p (g_rmx (1330 + 4 * fu + 2) u.2.1 u.2.2) s m args meth c cX6_tellingFound RX6 3 D g (va_A (gw g ad0 ln0 A0 N) s.heap.size) (1330 + 4 * fu + 2)) (hr : meth.sig.returnType = some .int)  {cp k n : Nat} (hch : g_chg N ad0 ln0 ad ln cp) {A : gM} {x1 : Int32} (h : mX6_tellingFound_b0 N cp k n rec A x1 = some (A', u, r)) : gJ p l e (g_rmx (1330 + 4 * fu + 2) u.2.1 u.2.2) s m args below meth c (gEAi below D g N ad0 ln0 A0 A' u r args s) 3 D g (va_A (gw g ad0 ln0 A0 N) s.heap.size) N ad ln A [(0, gr 183), (1, gi x1)] k n 0 [] := by
  have hkn := oX6_tellingFound_b0 h
  unfold mX6_tellingFound_b0 at h
  refine g_aload_n C 0 dX6_tellingFound_0 rfl ?_
  refine g_aload_n C 0 dX6_tellingFound_1 rfl ?_
  refine g_iload_n C 1 dX6_tellingFound_2 rfl ?_
  refine g_iconst (v := 1) C dX6_tellingFound_3 (by decide) ?_
  obtain ⟨q1, eq1, h⟩ := g_bd h
  refine g_calliV C 183 [gi x1, gi 1] (kX6_pa hN hch.2 eq1) qs_X6_46 (by omega) (by omega) rfl rfl rfl rfl (Nat.le_of_ble_eq_true rfl) hkn dX6_tellingFound_4 ?_
  obtain ⟨q2, eq2, h⟩ := g_bd h
  have mo := oX6_tellingFound_b10 h
  refine g_callAiV C 183 [gi q1.2] (hrec hch.2 eq2) qs_X6_139 (by omega) (by omega) rfl rfl rfl rfl (Nat.le_of_ble_eq_true rfl) ⟨mo.1, mo.2⟩ (And.intro ⟨by omega, by omega⟩ True.intro) True.intro dX6_tellingFound_7 (fun ad1 ln1 hch1 => ?_)
  have hch := g_chg.trans (by omega) hch hch1
  refine g_sub [0, 1] rfl ?_
  exact wX6_tellingFound_b10 hN hrec C hr hch h

set_option maxHeartbeats 2000000 in
set_option maxRecDepth 20000 in
theorem kX6_tellingFound {l : Launch} {D : va_G} {g : gT} {N : Nat} (hN : 193 ≤ N) {rec : Nat → gM → Int32 → Option (gM × (Nat × Nat × Nat) × Int32)} {fu : Nat} (hrec : ∀ {ad ln : Nat → Nat} {cp : Nat} (_ : g_cap ln cp) {A A' : gM} {x1 : Int32} {u : Nat × Nat × Nat} {r : Int32}, rec cp A x1 = some (A', u, r) → gAi l yX6_found cX6_found 3 (some .int) (1330 + 4 * fu) D g N ad ln A [gr 183, gi x1] A' u r) {ad ln : Nat → Nat} {cp : Nat} (hcp : g_cap ln cp) {A A' : gM} {x1 : Int32} {u : Nat × Nat × Nat} {r : Int32} (h : mX6_tellingFound N cp rec A x1 = some (A', u, r)) : gAi l yX6_tellingFound cX6_tellingFound 3 (some .int) ((1330 + 4 * fu + 2)) D g N ad ln A [gr 183, gi x1] A' u r := by
  refine g_metAi (by decide) (Nat.le_of_ble_eq_true rfl) ?_
  intro p e s m args below meth c C hr
  refine g_sub [0, 1] rfl ?_
  exact wX6_tellingFound_b0 hN hrec C hr (g_chg.rf hcp) h
def mX6_axleFound_b45 (N cp k n : Nat) (rec : Nat → gM → Int32 → Option (gM × (Nat × Nat × Nat) × Int32)) (A : gM) (s0 : Int32) : Option (gM × (Nat × Nat × Nat) × Int32) :=
  some (A, (cp, k, n), s0)
def mX6_axleFound_b28 (N cp k n : Nat) (rec : Nat → gM → Int32 → Option (gM × (Nat × Nat × Nat) × Int32)) (A : gM) (x2 : Int32) (s0 : Int32) : Option (gM × (Nat × Nat × Nat) × Int32) :=
  if s0 = (-1) then
  mX6_axleFound_b45 N cp k n rec A (-1)
  else
  (mX6_node N cp A 3 x2 s0).bind fun q2 =>
  mX6_axleFound_b45 N q2.2.1.1 (k + q2.2.1.2.1) (n + q2.2.1.2.2) rec q2.1 q2.2.2
def mX6_axleFound_b10 (N cp k n : Nat) (rec : Nat → gM → Int32 → Option (gM × (Nat × Nat × Nat) × Int32)) (A : gM) (x1 : Int32) (s0 : Int32) : Option (gM × (Nat × Nat × Nat) × Int32) :=
  if s0 = (-1) then
  some (A, (cp, k, n), (-1))
  else
  (mX6_pa cp A x1 2).bind fun q2 =>
  (rec cp q2.1 q2.2).bind fun q3 =>
  mX6_axleFound_b28 N q3.2.1.1 (k + q3.2.1.2.1) (n + q3.2.1.2.2) rec q3.1 s0 q3.2.2
def mX6_axleFound_b0 (N cp k n : Nat) (rec : Nat → gM → Int32 → Option (gM × (Nat × Nat × Nat) × Int32)) (A : gM) (x1 : Int32) : Option (gM × (Nat × Nat × Nat) × Int32) :=
  (mX6_pa cp A x1 1).bind fun q1 =>
  (rec cp q1.1 q1.2).bind fun q2 =>
  mX6_axleFound_b10 N q2.2.1.1 (k + q2.2.1.2.1) (n + q2.2.1.2.2) rec q2.1 x1 q2.2.2
def mX6_axleFound (N cp : Nat) (rec : Nat → gM → Int32 → Option (gM × (Nat × Nat × Nat) × Int32)) (A : gM) (x1 : Int32) : Option (gM × (Nat × Nat × Nat) × Int32) := mX6_axleFound_b0 N cp 0 0 rec A x1
set_option maxHeartbeats 2000000 in
set_option maxRecDepth 20000 in
theorem oX6_axleFound_b45 {N : Nat} {rec : Nat → gM → Int32 → Option (gM × (Nat × Nat × Nat) × Int32)} {A' : gM} {u : Nat × Nat × Nat} {r : Int32}  {cp k n : Nat} {A : gM} {s0 : Int32} (h : mX6_axleFound_b45 N cp k n rec A s0 = some (A', u, r)) : k ≤ u.2.1 ∧ n ≤ u.2.2 := by
  unfold mX6_axleFound_b45 at h
  obtain ⟨rfl, h2⟩ := Prod.mk.inj (Option.some.inj h)
  obtain ⟨rfl, rfl⟩ := Prod.mk.inj h2
  exact ⟨Nat.le_refl _, Nat.le_refl _⟩

set_option maxHeartbeats 2000000 in
set_option maxRecDepth 20000 in
theorem wX6_axleFound_b45 (hN : 193 ≤ N)  {rec : Nat → gM → Int32 → Option (gM × (Nat × Nat × Nat) × Int32)} {fu : Nat} (hrec : ∀ {ad ln : Nat → Nat} {cp : Nat} (_ : g_cap ln cp) {A A' : gM} {x1 : Int32} {u : Nat × Nat × Nat} {r : Int32}, rec cp A x1 = some (A', u, r) → gAi l yX6_found cX6_found 3 (some .int) (1330 + 4 * fu) D g N ad ln A [gr 183, gi x1] A' u r) {A0 A' : gM} {u : Nat × Nat × Nat} {r : Int32} (C : gC p (g_rmx (1330 + 4 * fu + 2) u.2.1 u.2.2) s m args meth c cX6_axleFound RX6 4 D g (va_A (gw g ad0 ln0 A0 N) s.heap.size) (1330 + 4 * fu + 2)) (hr : meth.sig.returnType = some .int)  {cp k n : Nat} (hch : g_chg N ad0 ln0 ad ln cp) {A : gM} {s0 : Int32} (h : mX6_axleFound_b45 N cp k n rec A s0 = some (A', u, r)) : gJ p l e (g_rmx (1330 + 4 * fu + 2) u.2.1 u.2.2) s m args below meth c (gEAi below D g N ad0 ln0 A0 A' u r args s) 4 D g (va_A (gw g ad0 ln0 A0 N) s.heap.size) N ad ln A [] k n 45 [gi s0] := by
  have hkn := oX6_axleFound_b45 h
  unfold mX6_axleFound_b45 at h
  obtain ⟨rfl, h2⟩ := Prod.mk.inj (Option.some.inj h)
  obtain ⟨rfl, rfl⟩ := Prod.mk.inj h2
  exact g_retAi C hch hr dX6_axleFound_45

set_option maxHeartbeats 2000000 in
set_option maxRecDepth 20000 in
theorem oX6_axleFound_b28 {N : Nat} {rec : Nat → gM → Int32 → Option (gM × (Nat × Nat × Nat) × Int32)} {A' : gM} {u : Nat × Nat × Nat} {r : Int32}  {cp k n : Nat} {A : gM} {x2 : Int32} {s0 : Int32} (h : mX6_axleFound_b28 N cp k n rec A x2 s0 = some (A', u, r)) : k ≤ u.2.1 ∧ n ≤ u.2.2 := by
  unfold mX6_axleFound_b28 at h
  by_cases c1 : s0 = (-1)
  · have h := g_tt c1 h
    exact oX6_axleFound_b45 h
  · have h := g_ff c1 h
    obtain ⟨q2, eq2, h⟩ := g_bd h
    have mo := oX6_axleFound_b45 h
    exact ⟨by omega, by omega⟩

set_option maxHeartbeats 2000000 in
set_option maxRecDepth 20000 in
theorem wX6_axleFound_b28 (hN : 193 ≤ N)  {rec : Nat → gM → Int32 → Option (gM × (Nat × Nat × Nat) × Int32)} {fu : Nat} (hrec : ∀ {ad ln : Nat → Nat} {cp : Nat} (_ : g_cap ln cp) {A A' : gM} {x1 : Int32} {u : Nat × Nat × Nat} {r : Int32}, rec cp A x1 = some (A', u, r) → gAi l yX6_found cX6_found 3 (some .int) (1330 + 4 * fu) D g N ad ln A [gr 183, gi x1] A' u r) {A0 A' : gM} {u : Nat × Nat × Nat} {r : Int32} (C : gC p (g_rmx (1330 + 4 * fu + 2) u.2.1 u.2.2) s m args meth c cX6_axleFound RX6 4 D g (va_A (gw g ad0 ln0 A0 N) s.heap.size) (1330 + 4 * fu + 2)) (hr : meth.sig.returnType = some .int)  {cp k n : Nat} (hch : g_chg N ad0 ln0 ad ln cp) {A : gM} {x2 : Int32} {s0 : Int32} (h : mX6_axleFound_b28 N cp k n rec A x2 s0 = some (A', u, r)) : gJ p l e (g_rmx (1330 + 4 * fu + 2) u.2.1 u.2.2) s m args below meth c (gEAi below D g N ad0 ln0 A0 A' u r args s) 4 D g (va_A (gw g ad0 ln0 A0 N) s.heap.size) N ad ln A [(0, gr 183), (2, gi x2)] k n 28 [gi s0] := by
  have hkn := oX6_axleFound_b28 h
  unfold mX6_axleFound_b28 at h
  refine g_istore_n C dX6_axleFound_28 (by decide) rfl ?_
  refine g_iload_n C 0 dX6_axleFound_29 rfl ?_
  refine g_iconst (v := (-1)) C dX6_axleFound_30 (by decide) ?_
  refine g_icmp_ne C dX6_axleFound_31 (tgt := 38) (by decide) (fun c1 => ?_) (fun c1 => ?_)
  · have h := g_ff c1 h
    refine g_aload_n C 1 dX6_axleFound_38 rfl ?_
    refine g_iconst (v := 3) C dX6_axleFound_39 (by decide) ?_
    refine g_iload_n C 2 dX6_axleFound_40 rfl ?_
    refine g_iload_n C 0 dX6_axleFound_41 rfl ?_
    obtain ⟨q2, eq2, h⟩ := g_bd h
    have mo := oX6_axleFound_b45 h
    refine g_callAiV C 183 [gi 3, gi x2, gi s0] (kX6_node hN hch.2 eq2) qs_X6_85 (by omega) (by omega) rfl rfl rfl rfl (Nat.le_of_ble_eq_true rfl) ⟨mo.1, mo.2⟩ (And.intro ⟨by omega, by omega⟩ True.intro) True.intro dX6_axleFound_42 (fun ad1 ln1 hch1 => ?_)
    have hch := g_chg.trans (by omega) hch hch1
    refine g_sub [] rfl ?_
    exact wX6_axleFound_b45 hN hrec C hr hch h
  · have h := g_tt c1 h
    refine g_iconst (v := (-1)) C dX6_axleFound_34 (by decide) ?_
    refine g_goto C dX6_axleFound_35 (tgt := 45) (by decide) ?_
    refine g_sub [] rfl ?_
    exact wX6_axleFound_b45 hN hrec C hr hch h

set_option maxHeartbeats 2000000 in
set_option maxRecDepth 20000 in
theorem oX6_axleFound_b10 {N : Nat} {rec : Nat → gM → Int32 → Option (gM × (Nat × Nat × Nat) × Int32)} {A' : gM} {u : Nat × Nat × Nat} {r : Int32}  {cp k n : Nat} {A : gM} {x1 : Int32} {s0 : Int32} (h : mX6_axleFound_b10 N cp k n rec A x1 s0 = some (A', u, r)) : k ≤ u.2.1 ∧ n ≤ u.2.2 := by
  unfold mX6_axleFound_b10 at h
  by_cases c1 : s0 = (-1)
  · have h := g_tt c1 h
    obtain ⟨rfl, h2⟩ := Prod.mk.inj (Option.some.inj h)
    obtain ⟨rfl, rfl⟩ := Prod.mk.inj h2
    exact ⟨Nat.le_refl _, Nat.le_refl _⟩
  · have h := g_ff c1 h
    obtain ⟨q2, eq2, h⟩ := g_bd h
    obtain ⟨q3, eq3, h⟩ := g_bd h
    have mo := oX6_axleFound_b28 h
    exact ⟨by omega, by omega⟩

set_option maxHeartbeats 2000000 in
set_option maxRecDepth 20000 in
theorem wX6_axleFound_b10 (hN : 193 ≤ N)  {rec : Nat → gM → Int32 → Option (gM × (Nat × Nat × Nat) × Int32)} {fu : Nat} (hrec : ∀ {ad ln : Nat → Nat} {cp : Nat} (_ : g_cap ln cp) {A A' : gM} {x1 : Int32} {u : Nat × Nat × Nat} {r : Int32}, rec cp A x1 = some (A', u, r) → gAi l yX6_found cX6_found 3 (some .int) (1330 + 4 * fu) D g N ad ln A [gr 183, gi x1] A' u r) {A0 A' : gM} {u : Nat × Nat × Nat} {r : Int32} (C : gC p (g_rmx (1330 + 4 * fu + 2) u.2.1 u.2.2) s m args meth c cX6_axleFound RX6 4 D g (va_A (gw g ad0 ln0 A0 N) s.heap.size) (1330 + 4 * fu + 2)) (hr : meth.sig.returnType = some .int)  {cp k n : Nat} (hch : g_chg N ad0 ln0 ad ln cp) {A : gM} {x1 : Int32} {s0 : Int32} (h : mX6_axleFound_b10 N cp k n rec A x1 s0 = some (A', u, r)) : gJ p l e (g_rmx (1330 + 4 * fu + 2) u.2.1 u.2.2) s m args below meth c (gEAi below D g N ad0 ln0 A0 A' u r args s) 4 D g (va_A (gw g ad0 ln0 A0 N) s.heap.size) N ad ln A [(0, gr 183), (1, gi x1)] k n 10 [gi s0] := by
  have hkn := oX6_axleFound_b10 h
  unfold mX6_axleFound_b10 at h
  refine g_istore_n C dX6_axleFound_10 (by decide) rfl ?_
  refine g_iload_n C 0 dX6_axleFound_11 rfl ?_
  refine g_iconst (v := (-1)) C dX6_axleFound_12 (by decide) ?_
  refine g_icmp_ne C dX6_axleFound_13 (tgt := 18) (by decide) (fun c1 => ?_) (fun c1 => ?_)
  · have h := g_ff c1 h
    refine g_aload_n C 1 dX6_axleFound_18 rfl ?_
    refine g_aload_n C 1 dX6_axleFound_19 rfl ?_
    refine g_iload_n C 2 dX6_axleFound_20 rfl ?_
    refine g_iconst (v := 2) C dX6_axleFound_21 (by decide) ?_
    obtain ⟨q2, eq2, h⟩ := g_bd h
    refine g_calliV C 183 [gi x1, gi 2] (kX6_pa hN hch.2 eq2) qs_X6_46 (by omega) (by omega) rfl rfl rfl rfl (Nat.le_of_ble_eq_true rfl) hkn dX6_axleFound_22 ?_
    obtain ⟨q3, eq3, h⟩ := g_bd h
    have mo := oX6_axleFound_b28 h
    refine g_callAiV C 183 [gi q2.2] (hrec hch.2 eq3) qs_X6_139 (by omega) (by omega) rfl rfl rfl rfl (Nat.le_of_ble_eq_true rfl) ⟨mo.1, mo.2⟩ (And.intro ⟨by omega, by omega⟩ True.intro) True.intro dX6_axleFound_25 (fun ad1 ln1 hch1 => ?_)
    have hch := g_chg.trans (by omega) hch hch1
    refine g_sub [1, 0] rfl ?_
    exact wX6_axleFound_b28 hN hrec C hr hch h
  · have h := g_tt c1 h
    refine g_iconst (v := (-1)) C dX6_axleFound_16 (by decide) ?_
    obtain ⟨rfl, h2⟩ := Prod.mk.inj (Option.some.inj h)
    obtain ⟨rfl, rfl⟩ := Prod.mk.inj h2
    exact g_retAi C hch hr dX6_axleFound_17

set_option maxHeartbeats 2000000 in
set_option maxRecDepth 20000 in
theorem oX6_axleFound_b0 {N : Nat} {rec : Nat → gM → Int32 → Option (gM × (Nat × Nat × Nat) × Int32)} {A' : gM} {u : Nat × Nat × Nat} {r : Int32}  {cp k n : Nat} {A : gM} {x1 : Int32} (h : mX6_axleFound_b0 N cp k n rec A x1 = some (A', u, r)) : k ≤ u.2.1 ∧ n ≤ u.2.2 := by
  unfold mX6_axleFound_b0 at h
  obtain ⟨q1, eq1, h⟩ := g_bd h
  obtain ⟨q2, eq2, h⟩ := g_bd h
  have mo := oX6_axleFound_b10 h
  exact ⟨by omega, by omega⟩

set_option maxHeartbeats 2000000 in
set_option maxRecDepth 20000 in
theorem wX6_axleFound_b0 (hN : 193 ≤ N)  {rec : Nat → gM → Int32 → Option (gM × (Nat × Nat × Nat) × Int32)} {fu : Nat} (hrec : ∀ {ad ln : Nat → Nat} {cp : Nat} (_ : g_cap ln cp) {A A' : gM} {x1 : Int32} {u : Nat × Nat × Nat} {r : Int32}, rec cp A x1 = some (A', u, r) → gAi l yX6_found cX6_found 3 (some .int) (1330 + 4 * fu) D g N ad ln A [gr 183, gi x1] A' u r) {A0 A' : gM} {u : Nat × Nat × Nat} {r : Int32} (C : gC p (g_rmx (1330 + 4 * fu + 2) u.2.1 u.2.2) s m args meth c cX6_axleFound RX6 4 D g (va_A (gw g ad0 ln0 A0 N) s.heap.size) (1330 + 4 * fu + 2)) (hr : meth.sig.returnType = some .int)  {cp k n : Nat} (hch : g_chg N ad0 ln0 ad ln cp) {A : gM} {x1 : Int32} (h : mX6_axleFound_b0 N cp k n rec A x1 = some (A', u, r)) : gJ p l e (g_rmx (1330 + 4 * fu + 2) u.2.1 u.2.2) s m args below meth c (gEAi below D g N ad0 ln0 A0 A' u r args s) 4 D g (va_A (gw g ad0 ln0 A0 N) s.heap.size) N ad ln A [(0, gr 183), (1, gi x1)] k n 0 [] := by
  have hkn := oX6_axleFound_b0 h
  unfold mX6_axleFound_b0 at h
  refine g_aload_n C 0 dX6_axleFound_0 rfl ?_
  refine g_aload_n C 0 dX6_axleFound_1 rfl ?_
  refine g_iload_n C 1 dX6_axleFound_2 rfl ?_
  refine g_iconst (v := 1) C dX6_axleFound_3 (by decide) ?_
  obtain ⟨q1, eq1, h⟩ := g_bd h
  refine g_calliV C 183 [gi x1, gi 1] (kX6_pa hN hch.2 eq1) qs_X6_46 (by omega) (by omega) rfl rfl rfl rfl (Nat.le_of_ble_eq_true rfl) hkn dX6_axleFound_4 ?_
  obtain ⟨q2, eq2, h⟩ := g_bd h
  have mo := oX6_axleFound_b10 h
  refine g_callAiV C 183 [gi q1.2] (hrec hch.2 eq2) qs_X6_139 (by omega) (by omega) rfl rfl rfl rfl (Nat.le_of_ble_eq_true rfl) ⟨mo.1, mo.2⟩ (And.intro ⟨by omega, by omega⟩ True.intro) True.intro dX6_axleFound_7 (fun ad1 ln1 hch1 => ?_)
  have hch := g_chg.trans (by omega) hch hch1
  refine g_sub [0, 1] rfl ?_
  exact wX6_axleFound_b10 hN hrec C hr hch h

set_option maxHeartbeats 2000000 in
set_option maxRecDepth 20000 in
theorem kX6_axleFound {l : Launch} {D : va_G} {g : gT} {N : Nat} (hN : 193 ≤ N) {rec : Nat → gM → Int32 → Option (gM × (Nat × Nat × Nat) × Int32)} {fu : Nat} (hrec : ∀ {ad ln : Nat → Nat} {cp : Nat} (_ : g_cap ln cp) {A A' : gM} {x1 : Int32} {u : Nat × Nat × Nat} {r : Int32}, rec cp A x1 = some (A', u, r) → gAi l yX6_found cX6_found 3 (some .int) (1330 + 4 * fu) D g N ad ln A [gr 183, gi x1] A' u r) {ad ln : Nat → Nat} {cp : Nat} (hcp : g_cap ln cp) {A A' : gM} {x1 : Int32} {u : Nat × Nat × Nat} {r : Int32} (h : mX6_axleFound N cp rec A x1 = some (A', u, r)) : gAi l yX6_axleFound cX6_axleFound 4 (some .int) ((1330 + 4 * fu + 2)) D g N ad ln A [gr 183, gi x1] A' u r := by
  refine g_metAi (by decide) (Nat.le_of_ble_eq_true rfl) ?_
  intro p e s m args below meth c C hr
  refine g_sub [0, 1] rfl ?_
  exact wX6_axleFound_b0 hN hrec C hr (g_chg.rf hcp) h
def mX6_endFound_b63 (N cp k n : Nat) (rec : Nat → gM → Int32 → Option (gM × (Nat × Nat × Nat) × Int32)) (A : gM) (s0 : Int32) : Option (gM × (Nat × Nat × Nat) × Int32) :=
  some (A, (cp, k, n), s0)
def mX6_endFound_b39 (N cp k n : Nat) (rec : Nat → gM → Int32 → Option (gM × (Nat × Nat × Nat) × Int32)) (A : gM) (x1 : Int32) (x3 : Int32) (x4 : Int32) (s1 : Int32) (s2 : Int32) : Option (gM × (Nat × Nat × Nat) × Int32) :=
  (mX6_join cp 1250 A s1 s2 x1).bind fun q1 =>
  if q1.2 = 0 then
  some (q1.1, (cp, k, n), (-1))
  else
  (mX6_pa cp q1.1 x1 4).bind fun q3 =>
  if q3.2 = 0 then
  mX6_endFound_b63 N cp k n rec q3.1 x3
  else
  mX6_endFound_b63 N cp k n rec q3.1 x4
def mX6_endFound_b27 (N cp k n : Nat) (rec : Nat → gM → Int32 → Option (gM × (Nat × Nat × Nat) × Int32)) (A : gM) (x1 : Int32) (x2 : Int32) (x3 : Int32) (s0 : Int32) : Option (gM × (Nat × Nat × Nat) × Int32) :=
  (mX6_node N cp A 3 x3 s0).bind fun q1 =>
  mX6_endFound_b39 N q1.2.1.1 (k + q1.2.1.2.1) (n + q1.2.1.2.2) rec q1.1 x1 x3 s0 x2 q1.2.2
def mX6_endFound_b22 (N cp k n : Nat) (rec : Nat → gM → Int32 → Option (gM × (Nat × Nat × Nat) × Int32)) (A : gM) (x1 : Int32) (x2 : Int32) (s0 : Int32) : Option (gM × (Nat × Nat × Nat) × Int32) :=
  (mX6_variable N cp A).bind fun q1 =>
  mX6_endFound_b27 N q1.2.1.1 (k + q1.2.1.2.1) (n + q1.2.1.2.2) rec q1.1 x1 x2 s0 q1.2.2
def mX6_endFound_b10 (N cp k n : Nat) (rec : Nat → gM → Int32 → Option (gM × (Nat × Nat × Nat) × Int32)) (A : gM) (x1 : Int32) (s0 : Int32) : Option (gM × (Nat × Nat × Nat) × Int32) :=
  if s0 = (-1) then
  some (A, (cp, k, n), (-1))
  else
  (mX6_variable N cp A).bind fun q2 =>
  mX6_endFound_b22 N q2.2.1.1 (k + q2.2.1.2.1) (n + q2.2.1.2.2) rec q2.1 x1 s0 q2.2.2
def mX6_endFound_b0 (N cp k n : Nat) (rec : Nat → gM → Int32 → Option (gM × (Nat × Nat × Nat) × Int32)) (A : gM) (x1 : Int32) : Option (gM × (Nat × Nat × Nat) × Int32) :=
  (mX6_pa cp A x1 1).bind fun q1 =>
  (rec cp q1.1 q1.2).bind fun q2 =>
  mX6_endFound_b10 N q2.2.1.1 (k + q2.2.1.2.1) (n + q2.2.1.2.2) rec q2.1 x1 q2.2.2
def mX6_endFound (N cp : Nat) (rec : Nat → gM → Int32 → Option (gM × (Nat × Nat × Nat) × Int32)) (A : gM) (x1 : Int32) : Option (gM × (Nat × Nat × Nat) × Int32) := mX6_endFound_b0 N cp 0 0 rec A x1
set_option maxHeartbeats 2000000 in
set_option maxRecDepth 20000 in
theorem oX6_endFound_b63 {N : Nat} {rec : Nat → gM → Int32 → Option (gM × (Nat × Nat × Nat) × Int32)} {A' : gM} {u : Nat × Nat × Nat} {r : Int32}  {cp k n : Nat} {A : gM} {s0 : Int32} (h : mX6_endFound_b63 N cp k n rec A s0 = some (A', u, r)) : k ≤ u.2.1 ∧ n ≤ u.2.2 := by
  unfold mX6_endFound_b63 at h
  obtain ⟨rfl, h2⟩ := Prod.mk.inj (Option.some.inj h)
  obtain ⟨rfl, rfl⟩ := Prod.mk.inj h2
  exact ⟨Nat.le_refl _, Nat.le_refl _⟩

set_option maxHeartbeats 2000000 in
set_option maxRecDepth 20000 in
theorem wX6_endFound_b63 (hN : 193 ≤ N)  {rec : Nat → gM → Int32 → Option (gM × (Nat × Nat × Nat) × Int32)} {fu : Nat} (hrec : ∀ {ad ln : Nat → Nat} {cp : Nat} (_ : g_cap ln cp) {A A' : gM} {x1 : Int32} {u : Nat × Nat × Nat} {r : Int32}, rec cp A x1 = some (A', u, r) → gAi l yX6_found cX6_found 3 (some .int) (1330 + 4 * fu) D g N ad ln A [gr 183, gi x1] A' u r) {A0 A' : gM} {u : Nat × Nat × Nat} {r : Int32} (C : gC p (g_rmx (1330 + 4 * fu + 2) u.2.1 u.2.2) s m args meth c cX6_endFound RX6 5 D g (va_A (gw g ad0 ln0 A0 N) s.heap.size) (1330 + 4 * fu + 2)) (hr : meth.sig.returnType = some .int)  {cp k n : Nat} (hch : g_chg N ad0 ln0 ad ln cp) {A : gM} {s0 : Int32} (h : mX6_endFound_b63 N cp k n rec A s0 = some (A', u, r)) : gJ p l e (g_rmx (1330 + 4 * fu + 2) u.2.1 u.2.2) s m args below meth c (gEAi below D g N ad0 ln0 A0 A' u r args s) 5 D g (va_A (gw g ad0 ln0 A0 N) s.heap.size) N ad ln A [] k n 63 [gi s0] := by
  have hkn := oX6_endFound_b63 h
  unfold mX6_endFound_b63 at h
  obtain ⟨rfl, h2⟩ := Prod.mk.inj (Option.some.inj h)
  obtain ⟨rfl, rfl⟩ := Prod.mk.inj h2
  exact g_retAi C hch hr dX6_endFound_63

set_option maxHeartbeats 2000000 in
set_option maxRecDepth 20000 in
theorem oX6_endFound_b39 {N : Nat} {rec : Nat → gM → Int32 → Option (gM × (Nat × Nat × Nat) × Int32)} {A' : gM} {u : Nat × Nat × Nat} {r : Int32}  {cp k n : Nat} {A : gM} {x1 : Int32} {x3 : Int32} {x4 : Int32} {s1 : Int32} {s2 : Int32} (h : mX6_endFound_b39 N cp k n rec A x1 x3 x4 s1 s2 = some (A', u, r)) : k ≤ u.2.1 ∧ n ≤ u.2.2 := by
  unfold mX6_endFound_b39 at h
  obtain ⟨q1, eq1, h⟩ := g_bd h
  by_cases c2 : q1.2 = 0
  · have h := g_tt c2 h
    obtain ⟨rfl, h2⟩ := Prod.mk.inj (Option.some.inj h)
    obtain ⟨rfl, rfl⟩ := Prod.mk.inj h2
    exact ⟨Nat.le_refl _, Nat.le_refl _⟩
  · have h := g_ff c2 h
    obtain ⟨q3, eq3, h⟩ := g_bd h
    by_cases c4 : q3.2 = 0
    · have h := g_tt c4 h
      exact oX6_endFound_b63 h
    · have h := g_ff c4 h
      exact oX6_endFound_b63 h

set_option maxHeartbeats 2000000 in
set_option maxRecDepth 20000 in
theorem wX6_endFound_b39 (hN : 193 ≤ N)  {rec : Nat → gM → Int32 → Option (gM × (Nat × Nat × Nat) × Int32)} {fu : Nat} (hrec : ∀ {ad ln : Nat → Nat} {cp : Nat} (_ : g_cap ln cp) {A A' : gM} {x1 : Int32} {u : Nat × Nat × Nat} {r : Int32}, rec cp A x1 = some (A', u, r) → gAi l yX6_found cX6_found 3 (some .int) (1330 + 4 * fu) D g N ad ln A [gr 183, gi x1] A' u r) {A0 A' : gM} {u : Nat × Nat × Nat} {r : Int32} (C : gC p (g_rmx (1330 + 4 * fu + 2) u.2.1 u.2.2) s m args meth c cX6_endFound RX6 5 D g (va_A (gw g ad0 ln0 A0 N) s.heap.size) (1330 + 4 * fu + 2)) (hr : meth.sig.returnType = some .int)  {cp k n : Nat} (hch : g_chg N ad0 ln0 ad ln cp) {A : gM} {x1 : Int32} {x3 : Int32} {x4 : Int32} {s1 : Int32} {s2 : Int32} (h : mX6_endFound_b39 N cp k n rec A x1 x3 x4 s1 s2 = some (A', u, r)) : gJ p l e (g_rmx (1330 + 4 * fu + 2) u.2.1 u.2.2) s m args below meth c (gEAi below D g N ad0 ln0 A0 A' u r args s) 5 D g (va_A (gw g ad0 ln0 A0 N) s.heap.size) N ad ln A [(0, gr 183), (1, gi x1), (3, gi x3), (4, gi x4)] k n 39 [gi s2, gi s1, gr 183] := by
  have hkn := oX6_endFound_b39 h
  unfold mX6_endFound_b39 at h
  refine g_iload_n C 1 dX6_endFound_39 rfl ?_
  obtain ⟨q1, eq1, h⟩ := g_bd h
  refine g_calliV C 183 [gi s1, gi s2, gi x1] (kX6_join hN hch.2 1250 eq1) qs_X6_108 (by omega) (by omega) rfl rfl rfl rfl (Nat.le_of_ble_eq_true rfl) hkn dX6_endFound_40 ?_
  refine g_if_ne C dX6_endFound_43 (tgt := 48) (by decide) (fun c2 => ?_) (fun c2 => ?_)
  · have h := g_ff c2 h
    refine g_aload_n C 0 dX6_endFound_48 rfl ?_
    refine g_iload_n C 1 dX6_endFound_49 rfl ?_
    refine g_iconst (v := 4) C dX6_endFound_50 (by decide) ?_
    obtain ⟨q3, eq3, h⟩ := g_bd h
    refine g_calliV C 183 [gi x1, gi 4] (kX6_pa hN hch.2 eq3) qs_X6_46 (by omega) (by omega) rfl rfl rfl rfl (Nat.le_of_ble_eq_true rfl) hkn dX6_endFound_51 ?_
    refine g_if_ne C dX6_endFound_54 (tgt := 61) (by decide) (fun c4 => ?_) (fun c4 => ?_)
    · have h := g_ff c4 h
      refine g_iload C 3 dX6_endFound_61 rfl ?_
      refine g_sub [] rfl ?_
      exact wX6_endFound_b63 hN hrec C hr hch h
    · have h := g_tt c4 h
      refine g_iload_n C 2 dX6_endFound_57 rfl ?_
      refine g_goto C dX6_endFound_58 (tgt := 63) (by decide) ?_
      refine g_sub [] rfl ?_
      exact wX6_endFound_b63 hN hrec C hr hch h
  · have h := g_tt c2 h
    refine g_iconst (v := (-1)) C dX6_endFound_46 (by decide) ?_
    obtain ⟨rfl, h2⟩ := Prod.mk.inj (Option.some.inj h)
    obtain ⟨rfl, rfl⟩ := Prod.mk.inj h2
    exact g_retAi C hch hr dX6_endFound_47

set_option maxHeartbeats 2000000 in
set_option maxRecDepth 20000 in
theorem oX6_endFound_b27 {N : Nat} {rec : Nat → gM → Int32 → Option (gM × (Nat × Nat × Nat) × Int32)} {A' : gM} {u : Nat × Nat × Nat} {r : Int32}  {cp k n : Nat} {A : gM} {x1 : Int32} {x2 : Int32} {x3 : Int32} {s0 : Int32} (h : mX6_endFound_b27 N cp k n rec A x1 x2 x3 s0 = some (A', u, r)) : k ≤ u.2.1 ∧ n ≤ u.2.2 := by
  unfold mX6_endFound_b27 at h
  obtain ⟨q1, eq1, h⟩ := g_bd h
  have mo := oX6_endFound_b39 h
  exact ⟨by omega, by omega⟩

set_option maxHeartbeats 2000000 in
set_option maxRecDepth 20000 in
theorem wX6_endFound_b27 (hN : 193 ≤ N)  {rec : Nat → gM → Int32 → Option (gM × (Nat × Nat × Nat) × Int32)} {fu : Nat} (hrec : ∀ {ad ln : Nat → Nat} {cp : Nat} (_ : g_cap ln cp) {A A' : gM} {x1 : Int32} {u : Nat × Nat × Nat} {r : Int32}, rec cp A x1 = some (A', u, r) → gAi l yX6_found cX6_found 3 (some .int) (1330 + 4 * fu) D g N ad ln A [gr 183, gi x1] A' u r) {A0 A' : gM} {u : Nat × Nat × Nat} {r : Int32} (C : gC p (g_rmx (1330 + 4 * fu + 2) u.2.1 u.2.2) s m args meth c cX6_endFound RX6 5 D g (va_A (gw g ad0 ln0 A0 N) s.heap.size) (1330 + 4 * fu + 2)) (hr : meth.sig.returnType = some .int)  {cp k n : Nat} (hch : g_chg N ad0 ln0 ad ln cp) {A : gM} {x1 : Int32} {x2 : Int32} {x3 : Int32} {s0 : Int32} (h : mX6_endFound_b27 N cp k n rec A x1 x2 x3 s0 = some (A', u, r)) : gJ p l e (g_rmx (1330 + 4 * fu + 2) u.2.1 u.2.2) s m args below meth c (gEAi below D g N ad0 ln0 A0 A' u r args s) 5 D g (va_A (gw g ad0 ln0 A0 N) s.heap.size) N ad ln A [(0, gr 183), (1, gi x1), (2, gi x2), (3, gi x3)] k n 27 [gi s0] := by
  have hkn := oX6_endFound_b27 h
  unfold mX6_endFound_b27 at h
  refine g_istore C dX6_endFound_27 (by decide) rfl ?_
  refine g_aload_n C 1 dX6_endFound_29 rfl ?_
  refine g_iload_n C 3 dX6_endFound_30 rfl ?_
  refine g_aload_n C 1 dX6_endFound_31 rfl ?_
  refine g_iconst (v := 3) C dX6_endFound_32 (by decide) ?_
  refine g_iload_n C 4 dX6_endFound_33 rfl ?_
  refine g_iload C 0 dX6_endFound_34 rfl ?_
  obtain ⟨q1, eq1, h⟩ := g_bd h
  have mo := oX6_endFound_b39 h
  refine g_callAiV C 183 [gi 3, gi x3, gi s0] (kX6_node hN hch.2 eq1) qs_X6_85 (by omega) (by omega) rfl rfl rfl rfl (Nat.le_of_ble_eq_true rfl) ⟨mo.1, mo.2⟩ (And.intro ⟨by omega, by omega⟩ True.intro) (And.intro ⟨by omega, by omega⟩ True.intro) dX6_endFound_36 (fun ad1 ln1 hch1 => ?_)
  have hch := g_chg.trans (by omega) hch hch1
  refine g_sub [1, 2, 4, 0] rfl ?_
  exact wX6_endFound_b39 hN hrec C hr hch h

set_option maxHeartbeats 2000000 in
set_option maxRecDepth 20000 in
theorem oX6_endFound_b22 {N : Nat} {rec : Nat → gM → Int32 → Option (gM × (Nat × Nat × Nat) × Int32)} {A' : gM} {u : Nat × Nat × Nat} {r : Int32}  {cp k n : Nat} {A : gM} {x1 : Int32} {x2 : Int32} {s0 : Int32} (h : mX6_endFound_b22 N cp k n rec A x1 x2 s0 = some (A', u, r)) : k ≤ u.2.1 ∧ n ≤ u.2.2 := by
  unfold mX6_endFound_b22 at h
  obtain ⟨q1, eq1, h⟩ := g_bd h
  have mo := oX6_endFound_b27 h
  exact ⟨by omega, by omega⟩

set_option maxHeartbeats 2000000 in
set_option maxRecDepth 20000 in
theorem wX6_endFound_b22 (hN : 193 ≤ N)  {rec : Nat → gM → Int32 → Option (gM × (Nat × Nat × Nat) × Int32)} {fu : Nat} (hrec : ∀ {ad ln : Nat → Nat} {cp : Nat} (_ : g_cap ln cp) {A A' : gM} {x1 : Int32} {u : Nat × Nat × Nat} {r : Int32}, rec cp A x1 = some (A', u, r) → gAi l yX6_found cX6_found 3 (some .int) (1330 + 4 * fu) D g N ad ln A [gr 183, gi x1] A' u r) {A0 A' : gM} {u : Nat × Nat × Nat} {r : Int32} (C : gC p (g_rmx (1330 + 4 * fu + 2) u.2.1 u.2.2) s m args meth c cX6_endFound RX6 5 D g (va_A (gw g ad0 ln0 A0 N) s.heap.size) (1330 + 4 * fu + 2)) (hr : meth.sig.returnType = some .int)  {cp k n : Nat} (hch : g_chg N ad0 ln0 ad ln cp) {A : gM} {x1 : Int32} {x2 : Int32} {s0 : Int32} (h : mX6_endFound_b22 N cp k n rec A x1 x2 s0 = some (A', u, r)) : gJ p l e (g_rmx (1330 + 4 * fu + 2) u.2.1 u.2.2) s m args below meth c (gEAi below D g N ad0 ln0 A0 A' u r args s) 5 D g (va_A (gw g ad0 ln0 A0 N) s.heap.size) N ad ln A [(0, gr 183), (1, gi x1), (2, gi x2)] k n 22 [gi s0] := by
  have hkn := oX6_endFound_b22 h
  unfold mX6_endFound_b22 at h
  refine g_istore_n C dX6_endFound_22 (by decide) rfl ?_
  refine g_aload_n C 1 dX6_endFound_23 rfl ?_
  obtain ⟨q1, eq1, h⟩ := g_bd h
  have mo := oX6_endFound_b27 h
  refine g_callAiV C 183 [] (kX6_variable hN hch.2 eq1) qs_X6_135 (by omega) (by omega) rfl rfl rfl rfl (Nat.le_of_ble_eq_true rfl) ⟨mo.1, mo.2⟩ (And.intro ⟨by omega, by omega⟩ True.intro) True.intro dX6_endFound_24 (fun ad1 ln1 hch1 => ?_)
  have hch := g_chg.trans (by omega) hch hch1
  refine g_sub [1, 2, 3, 0] rfl ?_
  exact wX6_endFound_b27 hN hrec C hr hch h

set_option maxHeartbeats 2000000 in
set_option maxRecDepth 20000 in
theorem oX6_endFound_b10 {N : Nat} {rec : Nat → gM → Int32 → Option (gM × (Nat × Nat × Nat) × Int32)} {A' : gM} {u : Nat × Nat × Nat} {r : Int32}  {cp k n : Nat} {A : gM} {x1 : Int32} {s0 : Int32} (h : mX6_endFound_b10 N cp k n rec A x1 s0 = some (A', u, r)) : k ≤ u.2.1 ∧ n ≤ u.2.2 := by
  unfold mX6_endFound_b10 at h
  by_cases c1 : s0 = (-1)
  · have h := g_tt c1 h
    obtain ⟨rfl, h2⟩ := Prod.mk.inj (Option.some.inj h)
    obtain ⟨rfl, rfl⟩ := Prod.mk.inj h2
    exact ⟨Nat.le_refl _, Nat.le_refl _⟩
  · have h := g_ff c1 h
    obtain ⟨q2, eq2, h⟩ := g_bd h
    have mo := oX6_endFound_b22 h
    exact ⟨by omega, by omega⟩

set_option maxHeartbeats 2000000 in
set_option maxRecDepth 20000 in
theorem wX6_endFound_b10 (hN : 193 ≤ N)  {rec : Nat → gM → Int32 → Option (gM × (Nat × Nat × Nat) × Int32)} {fu : Nat} (hrec : ∀ {ad ln : Nat → Nat} {cp : Nat} (_ : g_cap ln cp) {A A' : gM} {x1 : Int32} {u : Nat × Nat × Nat} {r : Int32}, rec cp A x1 = some (A', u, r) → gAi l yX6_found cX6_found 3 (some .int) (1330 + 4 * fu) D g N ad ln A [gr 183, gi x1] A' u r) {A0 A' : gM} {u : Nat × Nat × Nat} {r : Int32} (C : gC p (g_rmx (1330 + 4 * fu + 2) u.2.1 u.2.2) s m args meth c cX6_endFound RX6 5 D g (va_A (gw g ad0 ln0 A0 N) s.heap.size) (1330 + 4 * fu + 2)) (hr : meth.sig.returnType = some .int)  {cp k n : Nat} (hch : g_chg N ad0 ln0 ad ln cp) {A : gM} {x1 : Int32} {s0 : Int32} (h : mX6_endFound_b10 N cp k n rec A x1 s0 = some (A', u, r)) : gJ p l e (g_rmx (1330 + 4 * fu + 2) u.2.1 u.2.2) s m args below meth c (gEAi below D g N ad0 ln0 A0 A' u r args s) 5 D g (va_A (gw g ad0 ln0 A0 N) s.heap.size) N ad ln A [(0, gr 183), (1, gi x1)] k n 10 [gi s0] := by
  have hkn := oX6_endFound_b10 h
  unfold mX6_endFound_b10 at h
  refine g_istore_n C dX6_endFound_10 (by decide) rfl ?_
  refine g_iload_n C 0 dX6_endFound_11 rfl ?_
  refine g_iconst (v := (-1)) C dX6_endFound_12 (by decide) ?_
  refine g_icmp_ne C dX6_endFound_13 (tgt := 18) (by decide) (fun c1 => ?_) (fun c1 => ?_)
  · have h := g_ff c1 h
    refine g_aload_n C 1 dX6_endFound_18 rfl ?_
    obtain ⟨q2, eq2, h⟩ := g_bd h
    have mo := oX6_endFound_b22 h
    refine g_callAiV C 183 [] (kX6_variable hN hch.2 eq2) qs_X6_135 (by omega) (by omega) rfl rfl rfl rfl (Nat.le_of_ble_eq_true rfl) ⟨mo.1, mo.2⟩ (And.intro ⟨by omega, by omega⟩ True.intro) True.intro dX6_endFound_19 (fun ad1 ln1 hch1 => ?_)
    have hch := g_chg.trans (by omega) hch hch1
    refine g_sub [1, 2, 0] rfl ?_
    exact wX6_endFound_b22 hN hrec C hr hch h
  · have h := g_tt c1 h
    refine g_iconst (v := (-1)) C dX6_endFound_16 (by decide) ?_
    obtain ⟨rfl, h2⟩ := Prod.mk.inj (Option.some.inj h)
    obtain ⟨rfl, rfl⟩ := Prod.mk.inj h2
    exact g_retAi C hch hr dX6_endFound_17

set_option maxHeartbeats 2000000 in
set_option maxRecDepth 20000 in
theorem oX6_endFound_b0 {N : Nat} {rec : Nat → gM → Int32 → Option (gM × (Nat × Nat × Nat) × Int32)} {A' : gM} {u : Nat × Nat × Nat} {r : Int32}  {cp k n : Nat} {A : gM} {x1 : Int32} (h : mX6_endFound_b0 N cp k n rec A x1 = some (A', u, r)) : k ≤ u.2.1 ∧ n ≤ u.2.2 := by
  unfold mX6_endFound_b0 at h
  obtain ⟨q1, eq1, h⟩ := g_bd h
  obtain ⟨q2, eq2, h⟩ := g_bd h
  have mo := oX6_endFound_b10 h
  exact ⟨by omega, by omega⟩

set_option maxHeartbeats 2000000 in
set_option maxRecDepth 20000 in
theorem wX6_endFound_b0 (hN : 193 ≤ N)  {rec : Nat → gM → Int32 → Option (gM × (Nat × Nat × Nat) × Int32)} {fu : Nat} (hrec : ∀ {ad ln : Nat → Nat} {cp : Nat} (_ : g_cap ln cp) {A A' : gM} {x1 : Int32} {u : Nat × Nat × Nat} {r : Int32}, rec cp A x1 = some (A', u, r) → gAi l yX6_found cX6_found 3 (some .int) (1330 + 4 * fu) D g N ad ln A [gr 183, gi x1] A' u r) {A0 A' : gM} {u : Nat × Nat × Nat} {r : Int32} (C : gC p (g_rmx (1330 + 4 * fu + 2) u.2.1 u.2.2) s m args meth c cX6_endFound RX6 5 D g (va_A (gw g ad0 ln0 A0 N) s.heap.size) (1330 + 4 * fu + 2)) (hr : meth.sig.returnType = some .int)  {cp k n : Nat} (hch : g_chg N ad0 ln0 ad ln cp) {A : gM} {x1 : Int32} (h : mX6_endFound_b0 N cp k n rec A x1 = some (A', u, r)) : gJ p l e (g_rmx (1330 + 4 * fu + 2) u.2.1 u.2.2) s m args below meth c (gEAi below D g N ad0 ln0 A0 A' u r args s) 5 D g (va_A (gw g ad0 ln0 A0 N) s.heap.size) N ad ln A [(0, gr 183), (1, gi x1)] k n 0 [] := by
  have hkn := oX6_endFound_b0 h
  unfold mX6_endFound_b0 at h
  refine g_aload_n C 0 dX6_endFound_0 rfl ?_
  refine g_aload_n C 0 dX6_endFound_1 rfl ?_
  refine g_iload_n C 1 dX6_endFound_2 rfl ?_
  refine g_iconst (v := 1) C dX6_endFound_3 (by decide) ?_
  obtain ⟨q1, eq1, h⟩ := g_bd h
  refine g_calliV C 183 [gi x1, gi 1] (kX6_pa hN hch.2 eq1) qs_X6_46 (by omega) (by omega) rfl rfl rfl rfl (Nat.le_of_ble_eq_true rfl) hkn dX6_endFound_4 ?_
  obtain ⟨q2, eq2, h⟩ := g_bd h
  have mo := oX6_endFound_b10 h
  refine g_callAiV C 183 [gi q1.2] (hrec hch.2 eq2) qs_X6_139 (by omega) (by omega) rfl rfl rfl rfl (Nat.le_of_ble_eq_true rfl) ⟨mo.1, mo.2⟩ (And.intro ⟨by omega, by omega⟩ True.intro) True.intro dX6_endFound_7 (fun ad1 ln1 hch1 => ?_)
  have hch := g_chg.trans (by omega) hch hch1
  refine g_sub [0, 1] rfl ?_
  exact wX6_endFound_b10 hN hrec C hr hch h

set_option maxHeartbeats 2000000 in
set_option maxRecDepth 20000 in
theorem kX6_endFound {l : Launch} {D : va_G} {g : gT} {N : Nat} (hN : 193 ≤ N) {rec : Nat → gM → Int32 → Option (gM × (Nat × Nat × Nat) × Int32)} {fu : Nat} (hrec : ∀ {ad ln : Nat → Nat} {cp : Nat} (_ : g_cap ln cp) {A A' : gM} {x1 : Int32} {u : Nat × Nat × Nat} {r : Int32}, rec cp A x1 = some (A', u, r) → gAi l yX6_found cX6_found 3 (some .int) (1330 + 4 * fu) D g N ad ln A [gr 183, gi x1] A' u r) {ad ln : Nat → Nat} {cp : Nat} (hcp : g_cap ln cp) {A A' : gM} {x1 : Int32} {u : Nat × Nat × Nat} {r : Int32} (h : mX6_endFound N cp rec A x1 = some (A', u, r)) : gAi l yX6_endFound cX6_endFound 5 (some .int) ((1330 + 4 * fu + 2)) D g N ad ln A [gr 183, gi x1] A' u r := by
  refine g_metAi (by decide) (Nat.le_of_ble_eq_true rfl) ?_
  intro p e s m args below meth c C hr
  refine g_sub [0, 1] rfl ?_
  exact wX6_endFound_b0 hN hrec C hr (g_chg.rf hcp) h
def mX6_choiceFound_b32 (N cp k n : Nat) (rec : Nat → gM → Int32 → Option (gM × (Nat × Nat × Nat) × Int32)) (A : gM) : Option (gM × (Nat × Nat × Nat) × Int32) :=
  some (A, (cp, k, n), (-1))
def mX6_choiceFound_b86 (N cp k n : Nat) (rec : Nat → gM → Int32 → Option (gM × (Nat × Nat × Nat) × Int32)) (A : gM) (s0 : Int32) : Option (gM × (Nat × Nat × Nat) × Int32) :=
  some (A, (cp, k, n), s0)
def mX6_choiceFound_b85 (N cp k n : Nat) (rec : Nat → gM → Int32 → Option (gM × (Nat × Nat × Nat) × Int32)) (A : gM) : Option (gM × (Nat × Nat × Nat) × Int32) :=
  mX6_choiceFound_b86 N cp k n rec A (-1)
def mX6_choiceFound_b62 (N cp k n : Nat) (rec : Nat → gM → Int32 → Option (gM × (Nat × Nat × Nat) × Int32)) (A : gM) (x1 : Int32) (x3 : Int32) (s0 : Int32) : Option (gM × (Nat × Nat × Nat) × Int32) :=
  if s0 = (-1) then
  mX6_choiceFound_b85 N cp k n rec A
  else
  (mX6_join cp 1250 A x3 s0 x1).bind fun q2 =>
  if q2.2 = 0 then
  mX6_choiceFound_b85 N cp k n rec q2.1
  else
  mX6_choiceFound_b86 N cp k n rec q2.1 x3
def mX6_choiceFound_b44 (N cp k n : Nat) (rec : Nat → gM → Int32 → Option (gM × (Nat × Nat × Nat) × Int32)) (A : gM) (x1 : Int32) (s0 : Int32) : Option (gM × (Nat × Nat × Nat) × Int32) :=
  if s0 = (-1) then
  some (A, (cp, k, n), (-1))
  else
  (mX6_pa cp A x1 3).bind fun q2 =>
  (rec cp q2.1 q2.2).bind fun q3 =>
  mX6_choiceFound_b62 N q3.2.1.1 (k + q3.2.1.2.1) (n + q3.2.1.2.2) rec q3.1 x1 s0 q3.2.2
def mX6_choiceFound_b25 (N cp k n : Nat) (rec : Nat → gM → Int32 → Option (gM × (Nat × Nat × Nat) × Int32)) (A : gM) (x1 : Int32) (s1 : Int32) (s2 : Int32) : Option (gM × (Nat × Nat × Nat) × Int32) :=
  (mX6_join cp 1250 A s1 s2 x1).bind fun q1 =>
  if q1.2 = 0 then
  mX6_choiceFound_b32 N cp k n rec q1.1
  else
  (mX6_pa cp q1.1 x1 2).bind fun q3 =>
  (rec cp q3.1 q3.2).bind fun q4 =>
  mX6_choiceFound_b44 N q4.2.1.1 (k + q4.2.1.2.1) (n + q4.2.1.2.2) rec q4.1 x1 q4.2.2
def mX6_choiceFound_b10 (N cp k n : Nat) (rec : Nat → gM → Int32 → Option (gM × (Nat × Nat × Nat) × Int32)) (A : gM) (x1 : Int32) (s0 : Int32) : Option (gM × (Nat × Nat × Nat) × Int32) :=
  if s0 = (-1) then
  mX6_choiceFound_b32 N cp k n rec A
  else
  (mX6_node N cp A 1 (-1) (-1)).bind fun q2 =>
  mX6_choiceFound_b25 N q2.2.1.1 (k + q2.2.1.2.1) (n + q2.2.1.2.2) rec q2.1 x1 s0 q2.2.2
def mX6_choiceFound_b0 (N cp k n : Nat) (rec : Nat → gM → Int32 → Option (gM × (Nat × Nat × Nat) × Int32)) (A : gM) (x1 : Int32) : Option (gM × (Nat × Nat × Nat) × Int32) :=
  (mX6_pa cp A x1 1).bind fun q1 =>
  (rec cp q1.1 q1.2).bind fun q2 =>
  mX6_choiceFound_b10 N q2.2.1.1 (k + q2.2.1.2.1) (n + q2.2.1.2.2) rec q2.1 x1 q2.2.2
def mX6_choiceFound (N cp : Nat) (rec : Nat → gM → Int32 → Option (gM × (Nat × Nat × Nat) × Int32)) (A : gM) (x1 : Int32) : Option (gM × (Nat × Nat × Nat) × Int32) := mX6_choiceFound_b0 N cp 0 0 rec A x1
set_option maxHeartbeats 2000000 in
set_option maxRecDepth 20000 in
theorem oX6_choiceFound_b32 {N : Nat} {rec : Nat → gM → Int32 → Option (gM × (Nat × Nat × Nat) × Int32)} {A' : gM} {u : Nat × Nat × Nat} {r : Int32}  {cp k n : Nat} {A : gM} (h : mX6_choiceFound_b32 N cp k n rec A = some (A', u, r)) : k ≤ u.2.1 ∧ n ≤ u.2.2 := by
  unfold mX6_choiceFound_b32 at h
  obtain ⟨rfl, h2⟩ := Prod.mk.inj (Option.some.inj h)
  obtain ⟨rfl, rfl⟩ := Prod.mk.inj h2
  exact ⟨Nat.le_refl _, Nat.le_refl _⟩

set_option maxHeartbeats 2000000 in
set_option maxRecDepth 20000 in
theorem wX6_choiceFound_b32 (hN : 193 ≤ N)  {rec : Nat → gM → Int32 → Option (gM × (Nat × Nat × Nat) × Int32)} {fu : Nat} (hrec : ∀ {ad ln : Nat → Nat} {cp : Nat} (_ : g_cap ln cp) {A A' : gM} {x1 : Int32} {u : Nat × Nat × Nat} {r : Int32}, rec cp A x1 = some (A', u, r) → gAi l yX6_found cX6_found 3 (some .int) (1330 + 4 * fu) D g N ad ln A [gr 183, gi x1] A' u r) {A0 A' : gM} {u : Nat × Nat × Nat} {r : Int32} (C : gC p (g_rmx (1330 + 4 * fu + 2) u.2.1 u.2.2) s m args meth c cX6_choiceFound RX6 5 D g (va_A (gw g ad0 ln0 A0 N) s.heap.size) (1330 + 4 * fu + 2)) (hr : meth.sig.returnType = some .int)  {cp k n : Nat} (hch : g_chg N ad0 ln0 ad ln cp) {A : gM} (h : mX6_choiceFound_b32 N cp k n rec A = some (A', u, r)) : gJ p l e (g_rmx (1330 + 4 * fu + 2) u.2.1 u.2.2) s m args below meth c (gEAi below D g N ad0 ln0 A0 A' u r args s) 5 D g (va_A (gw g ad0 ln0 A0 N) s.heap.size) N ad ln A [] k n 32 [] := by
  have hkn := oX6_choiceFound_b32 h
  unfold mX6_choiceFound_b32 at h
  refine g_iconst (v := (-1)) C dX6_choiceFound_32 (by decide) ?_
  obtain ⟨rfl, h2⟩ := Prod.mk.inj (Option.some.inj h)
  obtain ⟨rfl, rfl⟩ := Prod.mk.inj h2
  exact g_retAi C hch hr dX6_choiceFound_33

set_option maxHeartbeats 2000000 in
set_option maxRecDepth 20000 in
theorem oX6_choiceFound_b86 {N : Nat} {rec : Nat → gM → Int32 → Option (gM × (Nat × Nat × Nat) × Int32)} {A' : gM} {u : Nat × Nat × Nat} {r : Int32}  {cp k n : Nat} {A : gM} {s0 : Int32} (h : mX6_choiceFound_b86 N cp k n rec A s0 = some (A', u, r)) : k ≤ u.2.1 ∧ n ≤ u.2.2 := by
  unfold mX6_choiceFound_b86 at h
  obtain ⟨rfl, h2⟩ := Prod.mk.inj (Option.some.inj h)
  obtain ⟨rfl, rfl⟩ := Prod.mk.inj h2
  exact ⟨Nat.le_refl _, Nat.le_refl _⟩

set_option maxHeartbeats 2000000 in
set_option maxRecDepth 20000 in
theorem wX6_choiceFound_b86 (hN : 193 ≤ N)  {rec : Nat → gM → Int32 → Option (gM × (Nat × Nat × Nat) × Int32)} {fu : Nat} (hrec : ∀ {ad ln : Nat → Nat} {cp : Nat} (_ : g_cap ln cp) {A A' : gM} {x1 : Int32} {u : Nat × Nat × Nat} {r : Int32}, rec cp A x1 = some (A', u, r) → gAi l yX6_found cX6_found 3 (some .int) (1330 + 4 * fu) D g N ad ln A [gr 183, gi x1] A' u r) {A0 A' : gM} {u : Nat × Nat × Nat} {r : Int32} (C : gC p (g_rmx (1330 + 4 * fu + 2) u.2.1 u.2.2) s m args meth c cX6_choiceFound RX6 5 D g (va_A (gw g ad0 ln0 A0 N) s.heap.size) (1330 + 4 * fu + 2)) (hr : meth.sig.returnType = some .int)  {cp k n : Nat} (hch : g_chg N ad0 ln0 ad ln cp) {A : gM} {s0 : Int32} (h : mX6_choiceFound_b86 N cp k n rec A s0 = some (A', u, r)) : gJ p l e (g_rmx (1330 + 4 * fu + 2) u.2.1 u.2.2) s m args below meth c (gEAi below D g N ad0 ln0 A0 A' u r args s) 5 D g (va_A (gw g ad0 ln0 A0 N) s.heap.size) N ad ln A [] k n 86 [gi s0] := by
  have hkn := oX6_choiceFound_b86 h
  unfold mX6_choiceFound_b86 at h
  obtain ⟨rfl, h2⟩ := Prod.mk.inj (Option.some.inj h)
  obtain ⟨rfl, rfl⟩ := Prod.mk.inj h2
  exact g_retAi C hch hr dX6_choiceFound_86

set_option maxHeartbeats 2000000 in
set_option maxRecDepth 20000 in
theorem oX6_choiceFound_b85 {N : Nat} {rec : Nat → gM → Int32 → Option (gM × (Nat × Nat × Nat) × Int32)} {A' : gM} {u : Nat × Nat × Nat} {r : Int32}  {cp k n : Nat} {A : gM} (h : mX6_choiceFound_b85 N cp k n rec A = some (A', u, r)) : k ≤ u.2.1 ∧ n ≤ u.2.2 := by
  unfold mX6_choiceFound_b85 at h
  exact oX6_choiceFound_b86 h

set_option maxHeartbeats 2000000 in
set_option maxRecDepth 20000 in
theorem wX6_choiceFound_b85 (hN : 193 ≤ N)  {rec : Nat → gM → Int32 → Option (gM × (Nat × Nat × Nat) × Int32)} {fu : Nat} (hrec : ∀ {ad ln : Nat → Nat} {cp : Nat} (_ : g_cap ln cp) {A A' : gM} {x1 : Int32} {u : Nat × Nat × Nat} {r : Int32}, rec cp A x1 = some (A', u, r) → gAi l yX6_found cX6_found 3 (some .int) (1330 + 4 * fu) D g N ad ln A [gr 183, gi x1] A' u r) {A0 A' : gM} {u : Nat × Nat × Nat} {r : Int32} (C : gC p (g_rmx (1330 + 4 * fu + 2) u.2.1 u.2.2) s m args meth c cX6_choiceFound RX6 5 D g (va_A (gw g ad0 ln0 A0 N) s.heap.size) (1330 + 4 * fu + 2)) (hr : meth.sig.returnType = some .int)  {cp k n : Nat} (hch : g_chg N ad0 ln0 ad ln cp) {A : gM} (h : mX6_choiceFound_b85 N cp k n rec A = some (A', u, r)) : gJ p l e (g_rmx (1330 + 4 * fu + 2) u.2.1 u.2.2) s m args below meth c (gEAi below D g N ad0 ln0 A0 A' u r args s) 5 D g (va_A (gw g ad0 ln0 A0 N) s.heap.size) N ad ln A [] k n 85 [] := by
  have hkn := oX6_choiceFound_b85 h
  unfold mX6_choiceFound_b85 at h
  refine g_iconst (v := (-1)) C dX6_choiceFound_85 (by decide) ?_
  refine g_sub [] rfl ?_
  exact wX6_choiceFound_b86 hN hrec C hr hch h

set_option maxHeartbeats 2000000 in
set_option maxRecDepth 20000 in
theorem oX6_choiceFound_b62 {N : Nat} {rec : Nat → gM → Int32 → Option (gM × (Nat × Nat × Nat) × Int32)} {A' : gM} {u : Nat × Nat × Nat} {r : Int32}  {cp k n : Nat} {A : gM} {x1 : Int32} {x3 : Int32} {s0 : Int32} (h : mX6_choiceFound_b62 N cp k n rec A x1 x3 s0 = some (A', u, r)) : k ≤ u.2.1 ∧ n ≤ u.2.2 := by
  unfold mX6_choiceFound_b62 at h
  by_cases c1 : s0 = (-1)
  · have h := g_tt c1 h
    exact oX6_choiceFound_b85 h
  · have h := g_ff c1 h
    obtain ⟨q2, eq2, h⟩ := g_bd h
    by_cases c3 : q2.2 = 0
    · have h := g_tt c3 h
      exact oX6_choiceFound_b85 h
    · have h := g_ff c3 h
      exact oX6_choiceFound_b86 h

set_option maxHeartbeats 2000000 in
set_option maxRecDepth 20000 in
theorem wX6_choiceFound_b62 (hN : 193 ≤ N)  {rec : Nat → gM → Int32 → Option (gM × (Nat × Nat × Nat) × Int32)} {fu : Nat} (hrec : ∀ {ad ln : Nat → Nat} {cp : Nat} (_ : g_cap ln cp) {A A' : gM} {x1 : Int32} {u : Nat × Nat × Nat} {r : Int32}, rec cp A x1 = some (A', u, r) → gAi l yX6_found cX6_found 3 (some .int) (1330 + 4 * fu) D g N ad ln A [gr 183, gi x1] A' u r) {A0 A' : gM} {u : Nat × Nat × Nat} {r : Int32} (C : gC p (g_rmx (1330 + 4 * fu + 2) u.2.1 u.2.2) s m args meth c cX6_choiceFound RX6 5 D g (va_A (gw g ad0 ln0 A0 N) s.heap.size) (1330 + 4 * fu + 2)) (hr : meth.sig.returnType = some .int)  {cp k n : Nat} (hch : g_chg N ad0 ln0 ad ln cp) {A : gM} {x1 : Int32} {x3 : Int32} {s0 : Int32} (h : mX6_choiceFound_b62 N cp k n rec A x1 x3 s0 = some (A', u, r)) : gJ p l e (g_rmx (1330 + 4 * fu + 2) u.2.1 u.2.2) s m args below meth c (gEAi below D g N ad0 ln0 A0 A' u r args s) 5 D g (va_A (gw g ad0 ln0 A0 N) s.heap.size) N ad ln A [(0, gr 183), (1, gi x1), (3, gi x3)] k n 62 [gi s0] := by
  have hkn := oX6_choiceFound_b62 h
  unfold mX6_choiceFound_b62 at h
  refine g_istore C dX6_choiceFound_62 (by decide) rfl ?_
  refine g_iload C 0 dX6_choiceFound_64 rfl ?_
  refine g_iconst (v := (-1)) C dX6_choiceFound_66 (by decide) ?_
  refine g_icmp_eq C dX6_choiceFound_67 (tgt := 85) (by decide) (fun c1 => ?_) (fun c1 => ?_)
  · have h := g_tt c1 h
    refine g_sub [] rfl ?_
    exact wX6_choiceFound_b85 hN hrec C hr hch h
  · have h := g_ff c1 h
    refine g_aload_n C 1 dX6_choiceFound_70 rfl ?_
    refine g_iload_n C 3 dX6_choiceFound_71 rfl ?_
    refine g_iload C 0 dX6_choiceFound_72 rfl ?_
    refine g_iload_n C 2 dX6_choiceFound_74 rfl ?_
    obtain ⟨q2, eq2, h⟩ := g_bd h
    refine g_calliV C 183 [gi x3, gi s0, gi x1] (kX6_join hN hch.2 1250 eq2) qs_X6_108 (by omega) (by omega) rfl rfl rfl rfl (Nat.le_of_ble_eq_true rfl) hkn dX6_choiceFound_75 ?_
    refine g_if_eq C dX6_choiceFound_78 (tgt := 85) (by decide) (fun c3 => ?_) (fun c3 => ?_)
    · have h := g_tt c3 h
      refine g_sub [] rfl ?_
      exact wX6_choiceFound_b85 hN hrec C hr hch h
    · have h := g_ff c3 h
      refine g_iload_n C 3 dX6_choiceFound_81 rfl ?_
      refine g_goto C dX6_choiceFound_82 (tgt := 86) (by decide) ?_
      refine g_sub [] rfl ?_
      exact wX6_choiceFound_b86 hN hrec C hr hch h

set_option maxHeartbeats 2000000 in
set_option maxRecDepth 20000 in
theorem oX6_choiceFound_b44 {N : Nat} {rec : Nat → gM → Int32 → Option (gM × (Nat × Nat × Nat) × Int32)} {A' : gM} {u : Nat × Nat × Nat} {r : Int32}  {cp k n : Nat} {A : gM} {x1 : Int32} {s0 : Int32} (h : mX6_choiceFound_b44 N cp k n rec A x1 s0 = some (A', u, r)) : k ≤ u.2.1 ∧ n ≤ u.2.2 := by
  unfold mX6_choiceFound_b44 at h
  by_cases c1 : s0 = (-1)
  · have h := g_tt c1 h
    obtain ⟨rfl, h2⟩ := Prod.mk.inj (Option.some.inj h)
    obtain ⟨rfl, rfl⟩ := Prod.mk.inj h2
    exact ⟨Nat.le_refl _, Nat.le_refl _⟩
  · have h := g_ff c1 h
    obtain ⟨q2, eq2, h⟩ := g_bd h
    obtain ⟨q3, eq3, h⟩ := g_bd h
    have mo := oX6_choiceFound_b62 h
    exact ⟨by omega, by omega⟩

set_option maxHeartbeats 2000000 in
set_option maxRecDepth 20000 in
theorem wX6_choiceFound_b44 (hN : 193 ≤ N)  {rec : Nat → gM → Int32 → Option (gM × (Nat × Nat × Nat) × Int32)} {fu : Nat} (hrec : ∀ {ad ln : Nat → Nat} {cp : Nat} (_ : g_cap ln cp) {A A' : gM} {x1 : Int32} {u : Nat × Nat × Nat} {r : Int32}, rec cp A x1 = some (A', u, r) → gAi l yX6_found cX6_found 3 (some .int) (1330 + 4 * fu) D g N ad ln A [gr 183, gi x1] A' u r) {A0 A' : gM} {u : Nat × Nat × Nat} {r : Int32} (C : gC p (g_rmx (1330 + 4 * fu + 2) u.2.1 u.2.2) s m args meth c cX6_choiceFound RX6 5 D g (va_A (gw g ad0 ln0 A0 N) s.heap.size) (1330 + 4 * fu + 2)) (hr : meth.sig.returnType = some .int)  {cp k n : Nat} (hch : g_chg N ad0 ln0 ad ln cp) {A : gM} {x1 : Int32} {s0 : Int32} (h : mX6_choiceFound_b44 N cp k n rec A x1 s0 = some (A', u, r)) : gJ p l e (g_rmx (1330 + 4 * fu + 2) u.2.1 u.2.2) s m args below meth c (gEAi below D g N ad0 ln0 A0 A' u r args s) 5 D g (va_A (gw g ad0 ln0 A0 N) s.heap.size) N ad ln A [(0, gr 183), (1, gi x1)] k n 44 [gi s0] := by
  have hkn := oX6_choiceFound_b44 h
  unfold mX6_choiceFound_b44 at h
  refine g_istore_n C dX6_choiceFound_44 (by decide) rfl ?_
  refine g_iload_n C 0 dX6_choiceFound_45 rfl ?_
  refine g_iconst (v := (-1)) C dX6_choiceFound_46 (by decide) ?_
  refine g_icmp_ne C dX6_choiceFound_47 (tgt := 52) (by decide) (fun c1 => ?_) (fun c1 => ?_)
  · have h := g_ff c1 h
    refine g_aload_n C 1 dX6_choiceFound_52 rfl ?_
    refine g_aload_n C 1 dX6_choiceFound_53 rfl ?_
    refine g_iload_n C 2 dX6_choiceFound_54 rfl ?_
    refine g_iconst (v := 3) C dX6_choiceFound_55 (by decide) ?_
    obtain ⟨q2, eq2, h⟩ := g_bd h
    refine g_calliV C 183 [gi x1, gi 3] (kX6_pa hN hch.2 eq2) qs_X6_46 (by omega) (by omega) rfl rfl rfl rfl (Nat.le_of_ble_eq_true rfl) hkn dX6_choiceFound_56 ?_
    obtain ⟨q3, eq3, h⟩ := g_bd h
    have mo := oX6_choiceFound_b62 h
    refine g_callAiV C 183 [gi q2.2] (hrec hch.2 eq3) qs_X6_139 (by omega) (by omega) rfl rfl rfl rfl (Nat.le_of_ble_eq_true rfl) ⟨mo.1, mo.2⟩ (And.intro ⟨by omega, by omega⟩ True.intro) True.intro dX6_choiceFound_59 (fun ad1 ln1 hch1 => ?_)
    have hch := g_chg.trans (by omega) hch hch1
    refine g_sub [1, 2, 0] rfl ?_
    exact wX6_choiceFound_b62 hN hrec C hr hch h
  · have h := g_tt c1 h
    refine g_iconst (v := (-1)) C dX6_choiceFound_50 (by decide) ?_
    obtain ⟨rfl, h2⟩ := Prod.mk.inj (Option.some.inj h)
    obtain ⟨rfl, rfl⟩ := Prod.mk.inj h2
    exact g_retAi C hch hr dX6_choiceFound_51

set_option maxHeartbeats 2000000 in
set_option maxRecDepth 20000 in
theorem oX6_choiceFound_b25 {N : Nat} {rec : Nat → gM → Int32 → Option (gM × (Nat × Nat × Nat) × Int32)} {A' : gM} {u : Nat × Nat × Nat} {r : Int32}  {cp k n : Nat} {A : gM} {x1 : Int32} {s1 : Int32} {s2 : Int32} (h : mX6_choiceFound_b25 N cp k n rec A x1 s1 s2 = some (A', u, r)) : k ≤ u.2.1 ∧ n ≤ u.2.2 := by
  unfold mX6_choiceFound_b25 at h
  obtain ⟨q1, eq1, h⟩ := g_bd h
  by_cases c2 : q1.2 = 0
  · have h := g_tt c2 h
    exact oX6_choiceFound_b32 h
  · have h := g_ff c2 h
    obtain ⟨q3, eq3, h⟩ := g_bd h
    obtain ⟨q4, eq4, h⟩ := g_bd h
    have mo := oX6_choiceFound_b44 h
    exact ⟨by omega, by omega⟩

set_option maxHeartbeats 2000000 in
set_option maxRecDepth 20000 in
theorem wX6_choiceFound_b25 (hN : 193 ≤ N)  {rec : Nat → gM → Int32 → Option (gM × (Nat × Nat × Nat) × Int32)} {fu : Nat} (hrec : ∀ {ad ln : Nat → Nat} {cp : Nat} (_ : g_cap ln cp) {A A' : gM} {x1 : Int32} {u : Nat × Nat × Nat} {r : Int32}, rec cp A x1 = some (A', u, r) → gAi l yX6_found cX6_found 3 (some .int) (1330 + 4 * fu) D g N ad ln A [gr 183, gi x1] A' u r) {A0 A' : gM} {u : Nat × Nat × Nat} {r : Int32} (C : gC p (g_rmx (1330 + 4 * fu + 2) u.2.1 u.2.2) s m args meth c cX6_choiceFound RX6 5 D g (va_A (gw g ad0 ln0 A0 N) s.heap.size) (1330 + 4 * fu + 2)) (hr : meth.sig.returnType = some .int)  {cp k n : Nat} (hch : g_chg N ad0 ln0 ad ln cp) {A : gM} {x1 : Int32} {s1 : Int32} {s2 : Int32} (h : mX6_choiceFound_b25 N cp k n rec A x1 s1 s2 = some (A', u, r)) : gJ p l e (g_rmx (1330 + 4 * fu + 2) u.2.1 u.2.2) s m args below meth c (gEAi below D g N ad0 ln0 A0 A' u r args s) 5 D g (va_A (gw g ad0 ln0 A0 N) s.heap.size) N ad ln A [(0, gr 183), (1, gi x1)] k n 25 [gi s2, gi s1, gr 183] := by
  have hkn := oX6_choiceFound_b25 h
  unfold mX6_choiceFound_b25 at h
  refine g_iload_n C 1 dX6_choiceFound_25 rfl ?_
  obtain ⟨q1, eq1, h⟩ := g_bd h
  refine g_calliV C 183 [gi s1, gi s2, gi x1] (kX6_join hN hch.2 1250 eq1) qs_X6_108 (by omega) (by omega) rfl rfl rfl rfl (Nat.le_of_ble_eq_true rfl) hkn dX6_choiceFound_26 ?_
  refine g_if_ne C dX6_choiceFound_29 (tgt := 34) (by decide) (fun c2 => ?_) (fun c2 => ?_)
  · have h := g_ff c2 h
    refine g_aload_n C 0 dX6_choiceFound_34 rfl ?_
    refine g_aload_n C 0 dX6_choiceFound_35 rfl ?_
    refine g_iload_n C 1 dX6_choiceFound_36 rfl ?_
    refine g_iconst (v := 2) C dX6_choiceFound_37 (by decide) ?_
    obtain ⟨q3, eq3, h⟩ := g_bd h
    refine g_calliV C 183 [gi x1, gi 2] (kX6_pa hN hch.2 eq3) qs_X6_46 (by omega) (by omega) rfl rfl rfl rfl (Nat.le_of_ble_eq_true rfl) hkn dX6_choiceFound_38 ?_
    obtain ⟨q4, eq4, h⟩ := g_bd h
    have mo := oX6_choiceFound_b44 h
    refine g_callAiV C 183 [gi q3.2] (hrec hch.2 eq4) qs_X6_139 (by omega) (by omega) rfl rfl rfl rfl (Nat.le_of_ble_eq_true rfl) ⟨mo.1, mo.2⟩ (And.intro ⟨by omega, by omega⟩ True.intro) True.intro dX6_choiceFound_41 (fun ad1 ln1 hch1 => ?_)
    have hch := g_chg.trans (by omega) hch hch1
    refine g_sub [0, 1] rfl ?_
    exact wX6_choiceFound_b44 hN hrec C hr hch h
  · have h := g_tt c2 h
    refine g_sub [] rfl ?_
    exact wX6_choiceFound_b32 hN hrec C hr hch h

set_option maxHeartbeats 2000000 in
set_option maxRecDepth 20000 in
theorem oX6_choiceFound_b10 {N : Nat} {rec : Nat → gM → Int32 → Option (gM × (Nat × Nat × Nat) × Int32)} {A' : gM} {u : Nat × Nat × Nat} {r : Int32}  {cp k n : Nat} {A : gM} {x1 : Int32} {s0 : Int32} (h : mX6_choiceFound_b10 N cp k n rec A x1 s0 = some (A', u, r)) : k ≤ u.2.1 ∧ n ≤ u.2.2 := by
  unfold mX6_choiceFound_b10 at h
  by_cases c1 : s0 = (-1)
  · have h := g_tt c1 h
    exact oX6_choiceFound_b32 h
  · have h := g_ff c1 h
    obtain ⟨q2, eq2, h⟩ := g_bd h
    have mo := oX6_choiceFound_b25 h
    exact ⟨by omega, by omega⟩

set_option maxHeartbeats 2000000 in
set_option maxRecDepth 20000 in
theorem wX6_choiceFound_b10 (hN : 193 ≤ N)  {rec : Nat → gM → Int32 → Option (gM × (Nat × Nat × Nat) × Int32)} {fu : Nat} (hrec : ∀ {ad ln : Nat → Nat} {cp : Nat} (_ : g_cap ln cp) {A A' : gM} {x1 : Int32} {u : Nat × Nat × Nat} {r : Int32}, rec cp A x1 = some (A', u, r) → gAi l yX6_found cX6_found 3 (some .int) (1330 + 4 * fu) D g N ad ln A [gr 183, gi x1] A' u r) {A0 A' : gM} {u : Nat × Nat × Nat} {r : Int32} (C : gC p (g_rmx (1330 + 4 * fu + 2) u.2.1 u.2.2) s m args meth c cX6_choiceFound RX6 5 D g (va_A (gw g ad0 ln0 A0 N) s.heap.size) (1330 + 4 * fu + 2)) (hr : meth.sig.returnType = some .int)  {cp k n : Nat} (hch : g_chg N ad0 ln0 ad ln cp) {A : gM} {x1 : Int32} {s0 : Int32} (h : mX6_choiceFound_b10 N cp k n rec A x1 s0 = some (A', u, r)) : gJ p l e (g_rmx (1330 + 4 * fu + 2) u.2.1 u.2.2) s m args below meth c (gEAi below D g N ad0 ln0 A0 A' u r args s) 5 D g (va_A (gw g ad0 ln0 A0 N) s.heap.size) N ad ln A [(0, gr 183), (1, gi x1)] k n 10 [gi s0] := by
  have hkn := oX6_choiceFound_b10 h
  unfold mX6_choiceFound_b10 at h
  refine g_istore_n C dX6_choiceFound_10 (by decide) rfl ?_
  refine g_iload_n C 0 dX6_choiceFound_11 rfl ?_
  refine g_iconst (v := (-1)) C dX6_choiceFound_12 (by decide) ?_
  refine g_icmp_eq C dX6_choiceFound_13 (tgt := 32) (by decide) (fun c1 => ?_) (fun c1 => ?_)
  · have h := g_tt c1 h
    refine g_sub [] rfl ?_
    exact wX6_choiceFound_b32 hN hrec C hr hch h
  · have h := g_ff c1 h
    refine g_aload_n C 1 dX6_choiceFound_16 rfl ?_
    refine g_iload_n C 0 dX6_choiceFound_17 rfl ?_
    refine g_aload_n C 1 dX6_choiceFound_18 rfl ?_
    refine g_iconst (v := 1) C dX6_choiceFound_19 (by decide) ?_
    refine g_iconst (v := (-1)) C dX6_choiceFound_20 (by decide) ?_
    refine g_iconst (v := (-1)) C dX6_choiceFound_21 (by decide) ?_
    obtain ⟨q2, eq2, h⟩ := g_bd h
    have mo := oX6_choiceFound_b25 h
    refine g_callAiV C 183 [gi 1, gi (-1), gi (-1)] (kX6_node hN hch.2 eq2) qs_X6_85 (by omega) (by omega) rfl rfl rfl rfl (Nat.le_of_ble_eq_true rfl) ⟨mo.1, mo.2⟩ (And.intro ⟨by omega, by omega⟩ True.intro) (And.intro ⟨by omega, by omega⟩ True.intro) dX6_choiceFound_22 (fun ad1 ln1 hch1 => ?_)
    have hch := g_chg.trans (by omega) hch hch1
    refine g_sub [1, 2] rfl ?_
    exact wX6_choiceFound_b25 hN hrec C hr hch h

set_option maxHeartbeats 2000000 in
set_option maxRecDepth 20000 in
theorem oX6_choiceFound_b0 {N : Nat} {rec : Nat → gM → Int32 → Option (gM × (Nat × Nat × Nat) × Int32)} {A' : gM} {u : Nat × Nat × Nat} {r : Int32}  {cp k n : Nat} {A : gM} {x1 : Int32} (h : mX6_choiceFound_b0 N cp k n rec A x1 = some (A', u, r)) : k ≤ u.2.1 ∧ n ≤ u.2.2 := by
  unfold mX6_choiceFound_b0 at h
  obtain ⟨q1, eq1, h⟩ := g_bd h
  obtain ⟨q2, eq2, h⟩ := g_bd h
  have mo := oX6_choiceFound_b10 h
  exact ⟨by omega, by omega⟩

set_option maxHeartbeats 2000000 in
set_option maxRecDepth 20000 in
theorem wX6_choiceFound_b0 (hN : 193 ≤ N)  {rec : Nat → gM → Int32 → Option (gM × (Nat × Nat × Nat) × Int32)} {fu : Nat} (hrec : ∀ {ad ln : Nat → Nat} {cp : Nat} (_ : g_cap ln cp) {A A' : gM} {x1 : Int32} {u : Nat × Nat × Nat} {r : Int32}, rec cp A x1 = some (A', u, r) → gAi l yX6_found cX6_found 3 (some .int) (1330 + 4 * fu) D g N ad ln A [gr 183, gi x1] A' u r) {A0 A' : gM} {u : Nat × Nat × Nat} {r : Int32} (C : gC p (g_rmx (1330 + 4 * fu + 2) u.2.1 u.2.2) s m args meth c cX6_choiceFound RX6 5 D g (va_A (gw g ad0 ln0 A0 N) s.heap.size) (1330 + 4 * fu + 2)) (hr : meth.sig.returnType = some .int)  {cp k n : Nat} (hch : g_chg N ad0 ln0 ad ln cp) {A : gM} {x1 : Int32} (h : mX6_choiceFound_b0 N cp k n rec A x1 = some (A', u, r)) : gJ p l e (g_rmx (1330 + 4 * fu + 2) u.2.1 u.2.2) s m args below meth c (gEAi below D g N ad0 ln0 A0 A' u r args s) 5 D g (va_A (gw g ad0 ln0 A0 N) s.heap.size) N ad ln A [(0, gr 183), (1, gi x1)] k n 0 [] := by
  have hkn := oX6_choiceFound_b0 h
  unfold mX6_choiceFound_b0 at h
  refine g_aload_n C 0 dX6_choiceFound_0 rfl ?_
  refine g_aload_n C 0 dX6_choiceFound_1 rfl ?_
  refine g_iload_n C 1 dX6_choiceFound_2 rfl ?_
  refine g_iconst (v := 1) C dX6_choiceFound_3 (by decide) ?_
  obtain ⟨q1, eq1, h⟩ := g_bd h
  refine g_calliV C 183 [gi x1, gi 1] (kX6_pa hN hch.2 eq1) qs_X6_46 (by omega) (by omega) rfl rfl rfl rfl (Nat.le_of_ble_eq_true rfl) hkn dX6_choiceFound_4 ?_
  obtain ⟨q2, eq2, h⟩ := g_bd h
  have mo := oX6_choiceFound_b10 h
  refine g_callAiV C 183 [gi q1.2] (hrec hch.2 eq2) qs_X6_139 (by omega) (by omega) rfl rfl rfl rfl (Nat.le_of_ble_eq_true rfl) ⟨mo.1, mo.2⟩ (And.intro ⟨by omega, by omega⟩ True.intro) True.intro dX6_choiceFound_7 (fun ad1 ln1 hch1 => ?_)
  have hch := g_chg.trans (by omega) hch hch1
  refine g_sub [0, 1] rfl ?_
  exact wX6_choiceFound_b10 hN hrec C hr hch h

set_option maxHeartbeats 2000000 in
set_option maxRecDepth 20000 in
theorem kX6_choiceFound {l : Launch} {D : va_G} {g : gT} {N : Nat} (hN : 193 ≤ N) {rec : Nat → gM → Int32 → Option (gM × (Nat × Nat × Nat) × Int32)} {fu : Nat} (hrec : ∀ {ad ln : Nat → Nat} {cp : Nat} (_ : g_cap ln cp) {A A' : gM} {x1 : Int32} {u : Nat × Nat × Nat} {r : Int32}, rec cp A x1 = some (A', u, r) → gAi l yX6_found cX6_found 3 (some .int) (1330 + 4 * fu) D g N ad ln A [gr 183, gi x1] A' u r) {ad ln : Nat → Nat} {cp : Nat} (hcp : g_cap ln cp) {A A' : gM} {x1 : Int32} {u : Nat × Nat × Nat} {r : Int32} (h : mX6_choiceFound N cp rec A x1 = some (A', u, r)) : gAi l yX6_choiceFound cX6_choiceFound 5 (some .int) ((1330 + 4 * fu + 2)) D g N ad ln A [gr 183, gi x1] A' u r := by
  refine g_metAi (by decide) (Nat.le_of_ble_eq_true rfl) ?_
  intro p e s m args below meth c C hr
  refine g_sub [0, 1] rfl ?_
  exact wX6_choiceFound_b0 hN hrec C hr (g_chg.rf hcp) h
def mX6_sortFound_b106 (N cp k n : Nat) (rec : Nat → gM → Int32 → Option (gM × (Nat × Nat × Nat) × Int32)) (A : gM) (s0 : Int32) : Option (gM × (Nat × Nat × Nat) × Int32) :=
  some (A, (cp, k, n), s0)
def mX6_sortFound_b100 (N cp k n : Nat) (rec : Nat → gM → Int32 → Option (gM × (Nat × Nat × Nat) × Int32)) (A : gM) (s0 : Int32) : Option (gM × (Nat × Nat × Nat) × Int32) :=
  some (A, (cp, k, n), s0)
def mX6_sortFound_b94 (N cp k n : Nat) (rec : Nat → gM → Int32 → Option (gM × (Nat × Nat × Nat) × Int32)) (A : gM) (s0 : Int32) : Option (gM × (Nat × Nat × Nat) × Int32) :=
  some (A, (cp, k, n), s0)
def mX6_sortFound_b88 (N cp k n : Nat) (rec : Nat → gM → Int32 → Option (gM × (Nat × Nat × Nat) × Int32)) (A : gM) (s0 : Int32) : Option (gM × (Nat × Nat × Nat) × Int32) :=
  some (A, (cp, k, n), s0)
def mX6_sortFound_b82 (N cp k n : Nat) (rec : Nat → gM → Int32 → Option (gM × (Nat × Nat × Nat) × Int32)) (A : gM) (s0 : Int32) : Option (gM × (Nat × Nat × Nat) × Int32) :=
  some (A, (cp, k, n), s0)
def mX6_sortFound_b76 (N cp k n : Nat) (rec : Nat → gM → Int32 → Option (gM × (Nat × Nat × Nat) × Int32)) (A : gM) (s0 : Int32) : Option (gM × (Nat × Nat × Nat) × Int32) :=
  some (A, (cp, k, n), s0)
def mX6_sortFound_b70 (N cp k n : Nat) (rec : Nat → gM → Int32 → Option (gM × (Nat × Nat × Nat) × Int32)) (A : gM) (s0 : Int32) : Option (gM × (Nat × Nat × Nat) × Int32) :=
  some (A, (cp, k, n), s0)
def mX6_sortFound_b64 (N cp k n : Nat) (rec : Nat → gM → Int32 → Option (gM × (Nat × Nat × Nat) × Int32)) (A : gM) (s0 : Int32) : Option (gM × (Nat × Nat × Nat) × Int32) :=
  some (A, (cp, k, n), s0)
def mX6_sortFound_b52 (N cp k n : Nat) (rec : Nat → gM → Int32 → Option (gM × (Nat × Nat × Nat) × Int32)) (A : gM) (x1 : Int32) : Option (gM × (Nat × Nat × Nat) × Int32) :=
  (mX6_pa cp A x1 0).bind fun q1 =>
  (mX6_node N cp q1.1 q1.2 (-1) (-1)).bind fun q2 =>
  mX6_sortFound_b64 N q2.2.1.1 (k + q2.2.1.2.1) (n + q2.2.1.2.2) rec q2.1 q2.2.2
def mX6_sortFound_b0 (N cp k n : Nat) (rec : Nat → gM → Int32 → Option (gM × (Nat × Nat × Nat) × Int32)) (A : gM) (x1 : Int32) : Option (gM × (Nat × Nat × Nat) × Int32) :=
  (mX6_pa cp A x1 0).bind fun q1 =>
  if q1.2 = 0 then
  mX6_sortFound_b52 N cp k n rec q1.1 x1
  else if q1.2 = 1 then
  mX6_sortFound_b52 N cp k n rec q1.1 x1
  else if q1.2 = 2 then
  (mX6_nameFound N cp q1.1 x1).bind fun q5 =>
  mX6_sortFound_b70 N q5.2.1.1 (k + q5.2.1.2.1) (n + q5.2.1.2.2) rec q5.1 q5.2.2
  else if q1.2 = 3 then
  (mX6_wheelFound N cp rec q1.1 x1).bind fun q7 =>
  mX6_sortFound_b76 N q7.2.1.1 (k + q7.2.1.2.1) (n + q7.2.1.2.2) rec q7.1 q7.2.2
  else if q1.2 = 4 then
  (mX6_turningFound N cp rec q1.1 x1).bind fun q9 =>
  mX6_sortFound_b82 N q9.2.1.1 (k + q9.2.1.2.1) (n + q9.2.1.2.2) rec q9.1 q9.2.2
  else if q1.2 = 5 then
  (mX6_tellingFound N cp rec q1.1 x1).bind fun q11 =>
  mX6_sortFound_b88 N q11.2.1.1 (k + q11.2.1.2.1) (n + q11.2.1.2.2) rec q11.1 q11.2.2
  else if q1.2 = 6 then
  (mX6_axleFound N cp rec q1.1 x1).bind fun q13 =>
  mX6_sortFound_b94 N q13.2.1.1 (k + q13.2.1.2.1) (n + q13.2.1.2.2) rec q13.1 q13.2.2
  else if q1.2 = 7 then
  (mX6_endFound N cp rec q1.1 x1).bind fun q15 =>
  mX6_sortFound_b100 N q15.2.1.1 (k + q15.2.1.2.1) (n + q15.2.1.2.2) rec q15.1 q15.2.2
  else (mX6_choiceFound N cp rec q1.1 x1).bind fun q16 =>
  mX6_sortFound_b106 N q16.2.1.1 (k + q16.2.1.2.1) (n + q16.2.1.2.2) rec q16.1 q16.2.2
def mX6_sortFound (N cp : Nat) (rec : Nat → gM → Int32 → Option (gM × (Nat × Nat × Nat) × Int32)) (A : gM) (x1 : Int32) : Option (gM × (Nat × Nat × Nat) × Int32) := mX6_sortFound_b0 N cp 0 0 rec A x1
set_option maxHeartbeats 2000000 in
set_option maxRecDepth 20000 in
theorem oX6_sortFound_b106 {N : Nat} {rec : Nat → gM → Int32 → Option (gM × (Nat × Nat × Nat) × Int32)} {A' : gM} {u : Nat × Nat × Nat} {r : Int32}  {cp k n : Nat} {A : gM} {s0 : Int32} (h : mX6_sortFound_b106 N cp k n rec A s0 = some (A', u, r)) : k ≤ u.2.1 ∧ n ≤ u.2.2 := by
  unfold mX6_sortFound_b106 at h
  obtain ⟨rfl, h2⟩ := Prod.mk.inj (Option.some.inj h)
  obtain ⟨rfl, rfl⟩ := Prod.mk.inj h2
  exact ⟨Nat.le_refl _, Nat.le_refl _⟩

set_option maxHeartbeats 2000000 in
set_option maxRecDepth 20000 in
theorem wX6_sortFound_b106 (hN : 193 ≤ N)  {rec : Nat → gM → Int32 → Option (gM × (Nat × Nat × Nat) × Int32)} {fu : Nat} (hrec : ∀ {ad ln : Nat → Nat} {cp : Nat} (_ : g_cap ln cp) {A A' : gM} {x1 : Int32} {u : Nat × Nat × Nat} {r : Int32}, rec cp A x1 = some (A', u, r) → gAi l yX6_found cX6_found 3 (some .int) (1330 + 4 * fu) D g N ad ln A [gr 183, gi x1] A' u r) {A0 A' : gM} {u : Nat × Nat × Nat} {r : Int32} (C : gC p (g_rmx (1330 + 4 * fu + 3) u.2.1 u.2.2) s m args meth c cX6_sortFound RX6 2 D g (va_A (gw g ad0 ln0 A0 N) s.heap.size) (1330 + 4 * fu + 3)) (hr : meth.sig.returnType = some .int)  {cp k n : Nat} (hch : g_chg N ad0 ln0 ad ln cp) {A : gM} {s0 : Int32} (h : mX6_sortFound_b106 N cp k n rec A s0 = some (A', u, r)) : gJ p l e (g_rmx (1330 + 4 * fu + 3) u.2.1 u.2.2) s m args below meth c (gEAi below D g N ad0 ln0 A0 A' u r args s) 2 D g (va_A (gw g ad0 ln0 A0 N) s.heap.size) N ad ln A [] k n 106 [gi s0] := by
  have hkn := oX6_sortFound_b106 h
  unfold mX6_sortFound_b106 at h
  obtain ⟨rfl, h2⟩ := Prod.mk.inj (Option.some.inj h)
  obtain ⟨rfl, rfl⟩ := Prod.mk.inj h2
  exact g_retAi C hch hr dX6_sortFound_106

set_option maxHeartbeats 2000000 in
set_option maxRecDepth 20000 in
theorem oX6_sortFound_b100 {N : Nat} {rec : Nat → gM → Int32 → Option (gM × (Nat × Nat × Nat) × Int32)} {A' : gM} {u : Nat × Nat × Nat} {r : Int32}  {cp k n : Nat} {A : gM} {s0 : Int32} (h : mX6_sortFound_b100 N cp k n rec A s0 = some (A', u, r)) : k ≤ u.2.1 ∧ n ≤ u.2.2 := by
  unfold mX6_sortFound_b100 at h
  obtain ⟨rfl, h2⟩ := Prod.mk.inj (Option.some.inj h)
  obtain ⟨rfl, rfl⟩ := Prod.mk.inj h2
  exact ⟨Nat.le_refl _, Nat.le_refl _⟩

set_option maxHeartbeats 2000000 in
set_option maxRecDepth 20000 in
theorem wX6_sortFound_b100 (hN : 193 ≤ N)  {rec : Nat → gM → Int32 → Option (gM × (Nat × Nat × Nat) × Int32)} {fu : Nat} (hrec : ∀ {ad ln : Nat → Nat} {cp : Nat} (_ : g_cap ln cp) {A A' : gM} {x1 : Int32} {u : Nat × Nat × Nat} {r : Int32}, rec cp A x1 = some (A', u, r) → gAi l yX6_found cX6_found 3 (some .int) (1330 + 4 * fu) D g N ad ln A [gr 183, gi x1] A' u r) {A0 A' : gM} {u : Nat × Nat × Nat} {r : Int32} (C : gC p (g_rmx (1330 + 4 * fu + 3) u.2.1 u.2.2) s m args meth c cX6_sortFound RX6 2 D g (va_A (gw g ad0 ln0 A0 N) s.heap.size) (1330 + 4 * fu + 3)) (hr : meth.sig.returnType = some .int)  {cp k n : Nat} (hch : g_chg N ad0 ln0 ad ln cp) {A : gM} {s0 : Int32} (h : mX6_sortFound_b100 N cp k n rec A s0 = some (A', u, r)) : gJ p l e (g_rmx (1330 + 4 * fu + 3) u.2.1 u.2.2) s m args below meth c (gEAi below D g N ad0 ln0 A0 A' u r args s) 2 D g (va_A (gw g ad0 ln0 A0 N) s.heap.size) N ad ln A [] k n 100 [gi s0] := by
  have hkn := oX6_sortFound_b100 h
  unfold mX6_sortFound_b100 at h
  obtain ⟨rfl, h2⟩ := Prod.mk.inj (Option.some.inj h)
  obtain ⟨rfl, rfl⟩ := Prod.mk.inj h2
  exact g_retAi C hch hr dX6_sortFound_100

set_option maxHeartbeats 2000000 in
set_option maxRecDepth 20000 in
theorem oX6_sortFound_b94 {N : Nat} {rec : Nat → gM → Int32 → Option (gM × (Nat × Nat × Nat) × Int32)} {A' : gM} {u : Nat × Nat × Nat} {r : Int32}  {cp k n : Nat} {A : gM} {s0 : Int32} (h : mX6_sortFound_b94 N cp k n rec A s0 = some (A', u, r)) : k ≤ u.2.1 ∧ n ≤ u.2.2 := by
  unfold mX6_sortFound_b94 at h
  obtain ⟨rfl, h2⟩ := Prod.mk.inj (Option.some.inj h)
  obtain ⟨rfl, rfl⟩ := Prod.mk.inj h2
  exact ⟨Nat.le_refl _, Nat.le_refl _⟩

set_option maxHeartbeats 2000000 in
set_option maxRecDepth 20000 in
theorem wX6_sortFound_b94 (hN : 193 ≤ N)  {rec : Nat → gM → Int32 → Option (gM × (Nat × Nat × Nat) × Int32)} {fu : Nat} (hrec : ∀ {ad ln : Nat → Nat} {cp : Nat} (_ : g_cap ln cp) {A A' : gM} {x1 : Int32} {u : Nat × Nat × Nat} {r : Int32}, rec cp A x1 = some (A', u, r) → gAi l yX6_found cX6_found 3 (some .int) (1330 + 4 * fu) D g N ad ln A [gr 183, gi x1] A' u r) {A0 A' : gM} {u : Nat × Nat × Nat} {r : Int32} (C : gC p (g_rmx (1330 + 4 * fu + 3) u.2.1 u.2.2) s m args meth c cX6_sortFound RX6 2 D g (va_A (gw g ad0 ln0 A0 N) s.heap.size) (1330 + 4 * fu + 3)) (hr : meth.sig.returnType = some .int)  {cp k n : Nat} (hch : g_chg N ad0 ln0 ad ln cp) {A : gM} {s0 : Int32} (h : mX6_sortFound_b94 N cp k n rec A s0 = some (A', u, r)) : gJ p l e (g_rmx (1330 + 4 * fu + 3) u.2.1 u.2.2) s m args below meth c (gEAi below D g N ad0 ln0 A0 A' u r args s) 2 D g (va_A (gw g ad0 ln0 A0 N) s.heap.size) N ad ln A [] k n 94 [gi s0] := by
  have hkn := oX6_sortFound_b94 h
  unfold mX6_sortFound_b94 at h
  obtain ⟨rfl, h2⟩ := Prod.mk.inj (Option.some.inj h)
  obtain ⟨rfl, rfl⟩ := Prod.mk.inj h2
  exact g_retAi C hch hr dX6_sortFound_94

set_option maxHeartbeats 2000000 in
set_option maxRecDepth 20000 in
theorem oX6_sortFound_b88 {N : Nat} {rec : Nat → gM → Int32 → Option (gM × (Nat × Nat × Nat) × Int32)} {A' : gM} {u : Nat × Nat × Nat} {r : Int32}  {cp k n : Nat} {A : gM} {s0 : Int32} (h : mX6_sortFound_b88 N cp k n rec A s0 = some (A', u, r)) : k ≤ u.2.1 ∧ n ≤ u.2.2 := by
  unfold mX6_sortFound_b88 at h
  obtain ⟨rfl, h2⟩ := Prod.mk.inj (Option.some.inj h)
  obtain ⟨rfl, rfl⟩ := Prod.mk.inj h2
  exact ⟨Nat.le_refl _, Nat.le_refl _⟩

set_option maxHeartbeats 2000000 in
set_option maxRecDepth 20000 in
theorem wX6_sortFound_b88 (hN : 193 ≤ N)  {rec : Nat → gM → Int32 → Option (gM × (Nat × Nat × Nat) × Int32)} {fu : Nat} (hrec : ∀ {ad ln : Nat → Nat} {cp : Nat} (_ : g_cap ln cp) {A A' : gM} {x1 : Int32} {u : Nat × Nat × Nat} {r : Int32}, rec cp A x1 = some (A', u, r) → gAi l yX6_found cX6_found 3 (some .int) (1330 + 4 * fu) D g N ad ln A [gr 183, gi x1] A' u r) {A0 A' : gM} {u : Nat × Nat × Nat} {r : Int32} (C : gC p (g_rmx (1330 + 4 * fu + 3) u.2.1 u.2.2) s m args meth c cX6_sortFound RX6 2 D g (va_A (gw g ad0 ln0 A0 N) s.heap.size) (1330 + 4 * fu + 3)) (hr : meth.sig.returnType = some .int)  {cp k n : Nat} (hch : g_chg N ad0 ln0 ad ln cp) {A : gM} {s0 : Int32} (h : mX6_sortFound_b88 N cp k n rec A s0 = some (A', u, r)) : gJ p l e (g_rmx (1330 + 4 * fu + 3) u.2.1 u.2.2) s m args below meth c (gEAi below D g N ad0 ln0 A0 A' u r args s) 2 D g (va_A (gw g ad0 ln0 A0 N) s.heap.size) N ad ln A [] k n 88 [gi s0] := by
  have hkn := oX6_sortFound_b88 h
  unfold mX6_sortFound_b88 at h
  obtain ⟨rfl, h2⟩ := Prod.mk.inj (Option.some.inj h)
  obtain ⟨rfl, rfl⟩ := Prod.mk.inj h2
  exact g_retAi C hch hr dX6_sortFound_88

set_option maxHeartbeats 2000000 in
set_option maxRecDepth 20000 in
theorem oX6_sortFound_b82 {N : Nat} {rec : Nat → gM → Int32 → Option (gM × (Nat × Nat × Nat) × Int32)} {A' : gM} {u : Nat × Nat × Nat} {r : Int32}  {cp k n : Nat} {A : gM} {s0 : Int32} (h : mX6_sortFound_b82 N cp k n rec A s0 = some (A', u, r)) : k ≤ u.2.1 ∧ n ≤ u.2.2 := by
  unfold mX6_sortFound_b82 at h
  obtain ⟨rfl, h2⟩ := Prod.mk.inj (Option.some.inj h)
  obtain ⟨rfl, rfl⟩ := Prod.mk.inj h2
  exact ⟨Nat.le_refl _, Nat.le_refl _⟩

set_option maxHeartbeats 2000000 in
set_option maxRecDepth 20000 in
theorem wX6_sortFound_b82 (hN : 193 ≤ N)  {rec : Nat → gM → Int32 → Option (gM × (Nat × Nat × Nat) × Int32)} {fu : Nat} (hrec : ∀ {ad ln : Nat → Nat} {cp : Nat} (_ : g_cap ln cp) {A A' : gM} {x1 : Int32} {u : Nat × Nat × Nat} {r : Int32}, rec cp A x1 = some (A', u, r) → gAi l yX6_found cX6_found 3 (some .int) (1330 + 4 * fu) D g N ad ln A [gr 183, gi x1] A' u r) {A0 A' : gM} {u : Nat × Nat × Nat} {r : Int32} (C : gC p (g_rmx (1330 + 4 * fu + 3) u.2.1 u.2.2) s m args meth c cX6_sortFound RX6 2 D g (va_A (gw g ad0 ln0 A0 N) s.heap.size) (1330 + 4 * fu + 3)) (hr : meth.sig.returnType = some .int)  {cp k n : Nat} (hch : g_chg N ad0 ln0 ad ln cp) {A : gM} {s0 : Int32} (h : mX6_sortFound_b82 N cp k n rec A s0 = some (A', u, r)) : gJ p l e (g_rmx (1330 + 4 * fu + 3) u.2.1 u.2.2) s m args below meth c (gEAi below D g N ad0 ln0 A0 A' u r args s) 2 D g (va_A (gw g ad0 ln0 A0 N) s.heap.size) N ad ln A [] k n 82 [gi s0] := by
  have hkn := oX6_sortFound_b82 h
  unfold mX6_sortFound_b82 at h
  obtain ⟨rfl, h2⟩ := Prod.mk.inj (Option.some.inj h)
  obtain ⟨rfl, rfl⟩ := Prod.mk.inj h2
  exact g_retAi C hch hr dX6_sortFound_82

set_option maxHeartbeats 2000000 in
set_option maxRecDepth 20000 in
theorem oX6_sortFound_b76 {N : Nat} {rec : Nat → gM → Int32 → Option (gM × (Nat × Nat × Nat) × Int32)} {A' : gM} {u : Nat × Nat × Nat} {r : Int32}  {cp k n : Nat} {A : gM} {s0 : Int32} (h : mX6_sortFound_b76 N cp k n rec A s0 = some (A', u, r)) : k ≤ u.2.1 ∧ n ≤ u.2.2 := by
  unfold mX6_sortFound_b76 at h
  obtain ⟨rfl, h2⟩ := Prod.mk.inj (Option.some.inj h)
  obtain ⟨rfl, rfl⟩ := Prod.mk.inj h2
  exact ⟨Nat.le_refl _, Nat.le_refl _⟩

set_option maxHeartbeats 2000000 in
set_option maxRecDepth 20000 in
theorem wX6_sortFound_b76 (hN : 193 ≤ N)  {rec : Nat → gM → Int32 → Option (gM × (Nat × Nat × Nat) × Int32)} {fu : Nat} (hrec : ∀ {ad ln : Nat → Nat} {cp : Nat} (_ : g_cap ln cp) {A A' : gM} {x1 : Int32} {u : Nat × Nat × Nat} {r : Int32}, rec cp A x1 = some (A', u, r) → gAi l yX6_found cX6_found 3 (some .int) (1330 + 4 * fu) D g N ad ln A [gr 183, gi x1] A' u r) {A0 A' : gM} {u : Nat × Nat × Nat} {r : Int32} (C : gC p (g_rmx (1330 + 4 * fu + 3) u.2.1 u.2.2) s m args meth c cX6_sortFound RX6 2 D g (va_A (gw g ad0 ln0 A0 N) s.heap.size) (1330 + 4 * fu + 3)) (hr : meth.sig.returnType = some .int)  {cp k n : Nat} (hch : g_chg N ad0 ln0 ad ln cp) {A : gM} {s0 : Int32} (h : mX6_sortFound_b76 N cp k n rec A s0 = some (A', u, r)) : gJ p l e (g_rmx (1330 + 4 * fu + 3) u.2.1 u.2.2) s m args below meth c (gEAi below D g N ad0 ln0 A0 A' u r args s) 2 D g (va_A (gw g ad0 ln0 A0 N) s.heap.size) N ad ln A [] k n 76 [gi s0] := by
  have hkn := oX6_sortFound_b76 h
  unfold mX6_sortFound_b76 at h
  obtain ⟨rfl, h2⟩ := Prod.mk.inj (Option.some.inj h)
  obtain ⟨rfl, rfl⟩ := Prod.mk.inj h2
  exact g_retAi C hch hr dX6_sortFound_76

set_option maxHeartbeats 2000000 in
set_option maxRecDepth 20000 in
theorem oX6_sortFound_b70 {N : Nat} {rec : Nat → gM → Int32 → Option (gM × (Nat × Nat × Nat) × Int32)} {A' : gM} {u : Nat × Nat × Nat} {r : Int32}  {cp k n : Nat} {A : gM} {s0 : Int32} (h : mX6_sortFound_b70 N cp k n rec A s0 = some (A', u, r)) : k ≤ u.2.1 ∧ n ≤ u.2.2 := by
  unfold mX6_sortFound_b70 at h
  obtain ⟨rfl, h2⟩ := Prod.mk.inj (Option.some.inj h)
  obtain ⟨rfl, rfl⟩ := Prod.mk.inj h2
  exact ⟨Nat.le_refl _, Nat.le_refl _⟩

set_option maxHeartbeats 2000000 in
set_option maxRecDepth 20000 in
theorem wX6_sortFound_b70 (hN : 193 ≤ N)  {rec : Nat → gM → Int32 → Option (gM × (Nat × Nat × Nat) × Int32)} {fu : Nat} (hrec : ∀ {ad ln : Nat → Nat} {cp : Nat} (_ : g_cap ln cp) {A A' : gM} {x1 : Int32} {u : Nat × Nat × Nat} {r : Int32}, rec cp A x1 = some (A', u, r) → gAi l yX6_found cX6_found 3 (some .int) (1330 + 4 * fu) D g N ad ln A [gr 183, gi x1] A' u r) {A0 A' : gM} {u : Nat × Nat × Nat} {r : Int32} (C : gC p (g_rmx (1330 + 4 * fu + 3) u.2.1 u.2.2) s m args meth c cX6_sortFound RX6 2 D g (va_A (gw g ad0 ln0 A0 N) s.heap.size) (1330 + 4 * fu + 3)) (hr : meth.sig.returnType = some .int)  {cp k n : Nat} (hch : g_chg N ad0 ln0 ad ln cp) {A : gM} {s0 : Int32} (h : mX6_sortFound_b70 N cp k n rec A s0 = some (A', u, r)) : gJ p l e (g_rmx (1330 + 4 * fu + 3) u.2.1 u.2.2) s m args below meth c (gEAi below D g N ad0 ln0 A0 A' u r args s) 2 D g (va_A (gw g ad0 ln0 A0 N) s.heap.size) N ad ln A [] k n 70 [gi s0] := by
  have hkn := oX6_sortFound_b70 h
  unfold mX6_sortFound_b70 at h
  obtain ⟨rfl, h2⟩ := Prod.mk.inj (Option.some.inj h)
  obtain ⟨rfl, rfl⟩ := Prod.mk.inj h2
  exact g_retAi C hch hr dX6_sortFound_70

set_option maxHeartbeats 2000000 in
set_option maxRecDepth 20000 in
theorem oX6_sortFound_b64 {N : Nat} {rec : Nat → gM → Int32 → Option (gM × (Nat × Nat × Nat) × Int32)} {A' : gM} {u : Nat × Nat × Nat} {r : Int32}  {cp k n : Nat} {A : gM} {s0 : Int32} (h : mX6_sortFound_b64 N cp k n rec A s0 = some (A', u, r)) : k ≤ u.2.1 ∧ n ≤ u.2.2 := by
  unfold mX6_sortFound_b64 at h
  obtain ⟨rfl, h2⟩ := Prod.mk.inj (Option.some.inj h)
  obtain ⟨rfl, rfl⟩ := Prod.mk.inj h2
  exact ⟨Nat.le_refl _, Nat.le_refl _⟩

set_option maxHeartbeats 2000000 in
set_option maxRecDepth 20000 in
theorem wX6_sortFound_b64 (hN : 193 ≤ N)  {rec : Nat → gM → Int32 → Option (gM × (Nat × Nat × Nat) × Int32)} {fu : Nat} (hrec : ∀ {ad ln : Nat → Nat} {cp : Nat} (_ : g_cap ln cp) {A A' : gM} {x1 : Int32} {u : Nat × Nat × Nat} {r : Int32}, rec cp A x1 = some (A', u, r) → gAi l yX6_found cX6_found 3 (some .int) (1330 + 4 * fu) D g N ad ln A [gr 183, gi x1] A' u r) {A0 A' : gM} {u : Nat × Nat × Nat} {r : Int32} (C : gC p (g_rmx (1330 + 4 * fu + 3) u.2.1 u.2.2) s m args meth c cX6_sortFound RX6 2 D g (va_A (gw g ad0 ln0 A0 N) s.heap.size) (1330 + 4 * fu + 3)) (hr : meth.sig.returnType = some .int)  {cp k n : Nat} (hch : g_chg N ad0 ln0 ad ln cp) {A : gM} {s0 : Int32} (h : mX6_sortFound_b64 N cp k n rec A s0 = some (A', u, r)) : gJ p l e (g_rmx (1330 + 4 * fu + 3) u.2.1 u.2.2) s m args below meth c (gEAi below D g N ad0 ln0 A0 A' u r args s) 2 D g (va_A (gw g ad0 ln0 A0 N) s.heap.size) N ad ln A [] k n 64 [gi s0] := by
  have hkn := oX6_sortFound_b64 h
  unfold mX6_sortFound_b64 at h
  obtain ⟨rfl, h2⟩ := Prod.mk.inj (Option.some.inj h)
  obtain ⟨rfl, rfl⟩ := Prod.mk.inj h2
  exact g_retAi C hch hr dX6_sortFound_64

set_option maxHeartbeats 2000000 in
set_option maxRecDepth 20000 in
theorem oX6_sortFound_b52 {N : Nat} {rec : Nat → gM → Int32 → Option (gM × (Nat × Nat × Nat) × Int32)} {A' : gM} {u : Nat × Nat × Nat} {r : Int32}  {cp k n : Nat} {A : gM} {x1 : Int32} (h : mX6_sortFound_b52 N cp k n rec A x1 = some (A', u, r)) : k ≤ u.2.1 ∧ n ≤ u.2.2 := by
  unfold mX6_sortFound_b52 at h
  obtain ⟨q1, eq1, h⟩ := g_bd h
  obtain ⟨q2, eq2, h⟩ := g_bd h
  have mo := oX6_sortFound_b64 h
  exact ⟨by omega, by omega⟩

set_option maxHeartbeats 2000000 in
set_option maxRecDepth 20000 in
theorem wX6_sortFound_b52 (hN : 193 ≤ N)  {rec : Nat → gM → Int32 → Option (gM × (Nat × Nat × Nat) × Int32)} {fu : Nat} (hrec : ∀ {ad ln : Nat → Nat} {cp : Nat} (_ : g_cap ln cp) {A A' : gM} {x1 : Int32} {u : Nat × Nat × Nat} {r : Int32}, rec cp A x1 = some (A', u, r) → gAi l yX6_found cX6_found 3 (some .int) (1330 + 4 * fu) D g N ad ln A [gr 183, gi x1] A' u r) {A0 A' : gM} {u : Nat × Nat × Nat} {r : Int32} (C : gC p (g_rmx (1330 + 4 * fu + 3) u.2.1 u.2.2) s m args meth c cX6_sortFound RX6 2 D g (va_A (gw g ad0 ln0 A0 N) s.heap.size) (1330 + 4 * fu + 3)) (hr : meth.sig.returnType = some .int)  {cp k n : Nat} (hch : g_chg N ad0 ln0 ad ln cp) {A : gM} {x1 : Int32} (h : mX6_sortFound_b52 N cp k n rec A x1 = some (A', u, r)) : gJ p l e (g_rmx (1330 + 4 * fu + 3) u.2.1 u.2.2) s m args below meth c (gEAi below D g N ad0 ln0 A0 A' u r args s) 2 D g (va_A (gw g ad0 ln0 A0 N) s.heap.size) N ad ln A [(0, gr 183), (1, gi x1)] k n 52 [] := by
  have hkn := oX6_sortFound_b52 h
  unfold mX6_sortFound_b52 at h
  refine g_aload_n C 0 dX6_sortFound_52 rfl ?_
  refine g_aload_n C 0 dX6_sortFound_53 rfl ?_
  refine g_iload_n C 1 dX6_sortFound_54 rfl ?_
  refine g_iconst (v := 0) C dX6_sortFound_55 (by decide) ?_
  obtain ⟨q1, eq1, h⟩ := g_bd h
  refine g_calliV C 183 [gi x1, gi 0] (kX6_pa hN hch.2 eq1) qs_X6_46 (by omega) (by omega) rfl rfl rfl rfl (Nat.le_of_ble_eq_true rfl) hkn dX6_sortFound_56 ?_
  refine g_iconst (v := (-1)) C dX6_sortFound_59 (by decide) ?_
  refine g_iconst (v := (-1)) C dX6_sortFound_60 (by decide) ?_
  obtain ⟨q2, eq2, h⟩ := g_bd h
  have mo := oX6_sortFound_b64 h
  refine g_callAiV C 183 [gi q1.2, gi (-1), gi (-1)] (kX6_node hN hch.2 eq2) qs_X6_85 (by omega) (by omega) rfl rfl rfl rfl (Nat.le_of_ble_eq_true rfl) ⟨mo.1, mo.2⟩ (And.intro ⟨by omega, by omega⟩ True.intro) True.intro dX6_sortFound_61 (fun ad1 ln1 hch1 => ?_)
  have hch := g_chg.trans (by omega) hch hch1
  refine g_sub [] rfl ?_
  exact wX6_sortFound_b64 hN hrec C hr hch h

set_option maxHeartbeats 2000000 in
set_option maxRecDepth 20000 in
theorem oX6_sortFound_b0 {N : Nat} {rec : Nat → gM → Int32 → Option (gM × (Nat × Nat × Nat) × Int32)} {A' : gM} {u : Nat × Nat × Nat} {r : Int32}  {cp k n : Nat} {A : gM} {x1 : Int32} (h : mX6_sortFound_b0 N cp k n rec A x1 = some (A', u, r)) : k ≤ u.2.1 ∧ n ≤ u.2.2 := by
  unfold mX6_sortFound_b0 at h
  obtain ⟨q1, eq1, h⟩ := g_bd h
  by_cases c2 : q1.2 = 0
  · have h := g_tt c2 h
    exact oX6_sortFound_b52 h
  have h := g_ff c2 h
  by_cases c3 : q1.2 = 1
  · have h := g_tt c3 h
    exact oX6_sortFound_b52 h
  have h := g_ff c3 h
  by_cases c4 : q1.2 = 2
  · have h := g_tt c4 h
    obtain ⟨q5, eq5, h⟩ := g_bd h
    have mo := oX6_sortFound_b70 h
    exact ⟨by omega, by omega⟩
  have h := g_ff c4 h
  by_cases c6 : q1.2 = 3
  · have h := g_tt c6 h
    obtain ⟨q7, eq7, h⟩ := g_bd h
    have mo := oX6_sortFound_b76 h
    exact ⟨by omega, by omega⟩
  have h := g_ff c6 h
  by_cases c8 : q1.2 = 4
  · have h := g_tt c8 h
    obtain ⟨q9, eq9, h⟩ := g_bd h
    have mo := oX6_sortFound_b82 h
    exact ⟨by omega, by omega⟩
  have h := g_ff c8 h
  by_cases c10 : q1.2 = 5
  · have h := g_tt c10 h
    obtain ⟨q11, eq11, h⟩ := g_bd h
    have mo := oX6_sortFound_b88 h
    exact ⟨by omega, by omega⟩
  have h := g_ff c10 h
  by_cases c12 : q1.2 = 6
  · have h := g_tt c12 h
    obtain ⟨q13, eq13, h⟩ := g_bd h
    have mo := oX6_sortFound_b94 h
    exact ⟨by omega, by omega⟩
  have h := g_ff c12 h
  by_cases c14 : q1.2 = 7
  · have h := g_tt c14 h
    obtain ⟨q15, eq15, h⟩ := g_bd h
    have mo := oX6_sortFound_b100 h
    exact ⟨by omega, by omega⟩
  have h := g_ff c14 h
  obtain ⟨q16, eq16, h⟩ := g_bd h
  have mo := oX6_sortFound_b106 h
  exact ⟨by omega, by omega⟩

set_option maxHeartbeats 2000000 in
set_option maxRecDepth 20000 in
theorem wX6_sortFound_b0 (hN : 193 ≤ N)  {rec : Nat → gM → Int32 → Option (gM × (Nat × Nat × Nat) × Int32)} {fu : Nat} (hrec : ∀ {ad ln : Nat → Nat} {cp : Nat} (_ : g_cap ln cp) {A A' : gM} {x1 : Int32} {u : Nat × Nat × Nat} {r : Int32}, rec cp A x1 = some (A', u, r) → gAi l yX6_found cX6_found 3 (some .int) (1330 + 4 * fu) D g N ad ln A [gr 183, gi x1] A' u r) {A0 A' : gM} {u : Nat × Nat × Nat} {r : Int32} (C : gC p (g_rmx (1330 + 4 * fu + 3) u.2.1 u.2.2) s m args meth c cX6_sortFound RX6 2 D g (va_A (gw g ad0 ln0 A0 N) s.heap.size) (1330 + 4 * fu + 3)) (hr : meth.sig.returnType = some .int)  {cp k n : Nat} (hch : g_chg N ad0 ln0 ad ln cp) {A : gM} {x1 : Int32} (h : mX6_sortFound_b0 N cp k n rec A x1 = some (A', u, r)) : gJ p l e (g_rmx (1330 + 4 * fu + 3) u.2.1 u.2.2) s m args below meth c (gEAi below D g N ad0 ln0 A0 A' u r args s) 2 D g (va_A (gw g ad0 ln0 A0 N) s.heap.size) N ad ln A [(0, gr 183), (1, gi x1)] k n 0 [] := by
  have hkn := oX6_sortFound_b0 h
  unfold mX6_sortFound_b0 at h
  refine g_aload_n C 0 dX6_sortFound_0 rfl ?_
  refine g_iload_n C 1 dX6_sortFound_1 rfl ?_
  refine g_iconst (v := 0) C dX6_sortFound_2 (by decide) ?_
  obtain ⟨q1, eq1, h⟩ := g_bd h
  refine g_calliV C 183 [gi x1, gi 0] (kX6_pa hN hch.2 eq1) qs_X6_46 (by omega) (by omega) rfl rfl rfl rfl (Nat.le_of_ble_eq_true rfl) hkn dX6_sortFound_3 ?_
  by_cases c2 : q1.2 = 0
  · have h := g_tt c2 h
    refine g_tableIn C dX6_sortFound_6 (tgt := 52) (by rw [c2]; decide) (by rw [c2]; decide) (by rw [c2]; rfl) (by decide) ?_
    refine g_sub [0, 1] rfl ?_
    exact wX6_sortFound_b52 hN hrec C hr hch h
  have h := g_ff c2 h
  by_cases c3 : q1.2 = 1
  · have h := g_tt c3 h
    refine g_tableIn C dX6_sortFound_6 (tgt := 52) (by rw [c3]; decide) (by rw [c3]; decide) (by rw [c3]; rfl) (by decide) ?_
    refine g_sub [0, 1] rfl ?_
    exact wX6_sortFound_b52 hN hrec C hr hch h
  have h := g_ff c3 h
  by_cases c4 : q1.2 = 2
  · have h := g_tt c4 h
    refine g_tableIn C dX6_sortFound_6 (tgt := 65) (by rw [c4]; decide) (by rw [c4]; decide) (by rw [c4]; rfl) (by decide) ?_
    refine g_aload_n C 0 dX6_sortFound_65 rfl ?_
    refine g_iload_n C 1 dX6_sortFound_66 rfl ?_
    obtain ⟨q5, eq5, h⟩ := g_bd h
    have mo := oX6_sortFound_b70 h
    refine g_callAiV C 183 [gi x1] (kX6_nameFound hN hch.2 eq5) qs_X6_145 (by omega) (by omega) rfl rfl rfl rfl (Nat.le_of_ble_eq_true rfl) ⟨mo.1, mo.2⟩ (And.intro ⟨by omega, by omega⟩ True.intro) True.intro dX6_sortFound_67 (fun ad1 ln1 hch1 => ?_)
    have hch := g_chg.trans (by omega) hch hch1
    refine g_sub [] rfl ?_
    exact wX6_sortFound_b70 hN hrec C hr hch h
  have h := g_ff c4 h
  by_cases c6 : q1.2 = 3
  · have h := g_tt c6 h
    refine g_tableIn C dX6_sortFound_6 (tgt := 71) (by rw [c6]; decide) (by rw [c6]; decide) (by rw [c6]; rfl) (by decide) ?_
    refine g_aload_n C 0 dX6_sortFound_71 rfl ?_
    refine g_iload_n C 1 dX6_sortFound_72 rfl ?_
    obtain ⟨q7, eq7, h⟩ := g_bd h
    have mo := oX6_sortFound_b76 h
    refine g_callAiV C 183 [gi x1] (kX6_wheelFound hN hrec hch.2 eq7) qs_X6_148 (by omega) (by omega) rfl rfl rfl rfl (Nat.le_of_ble_eq_true rfl) ⟨mo.1, mo.2⟩ (And.intro ⟨by omega, by omega⟩ True.intro) True.intro dX6_sortFound_73 (fun ad1 ln1 hch1 => ?_)
    have hch := g_chg.trans (by omega) hch hch1
    refine g_sub [] rfl ?_
    exact wX6_sortFound_b76 hN hrec C hr hch h
  have h := g_ff c6 h
  by_cases c8 : q1.2 = 4
  · have h := g_tt c8 h
    refine g_tableIn C dX6_sortFound_6 (tgt := 77) (by rw [c8]; decide) (by rw [c8]; decide) (by rw [c8]; rfl) (by decide) ?_
    refine g_aload_n C 0 dX6_sortFound_77 rfl ?_
    refine g_iload_n C 1 dX6_sortFound_78 rfl ?_
    obtain ⟨q9, eq9, h⟩ := g_bd h
    have mo := oX6_sortFound_b82 h
    refine g_callAiV C 183 [gi x1] (kX6_turningFound hN hrec hch.2 eq9) qs_X6_151 (by omega) (by omega) rfl rfl rfl rfl (Nat.le_of_ble_eq_true rfl) ⟨mo.1, mo.2⟩ (And.intro ⟨by omega, by omega⟩ True.intro) True.intro dX6_sortFound_79 (fun ad1 ln1 hch1 => ?_)
    have hch := g_chg.trans (by omega) hch hch1
    refine g_sub [] rfl ?_
    exact wX6_sortFound_b82 hN hrec C hr hch h
  have h := g_ff c8 h
  by_cases c10 : q1.2 = 5
  · have h := g_tt c10 h
    refine g_tableIn C dX6_sortFound_6 (tgt := 83) (by rw [c10]; decide) (by rw [c10]; decide) (by rw [c10]; rfl) (by decide) ?_
    refine g_aload_n C 0 dX6_sortFound_83 rfl ?_
    refine g_iload_n C 1 dX6_sortFound_84 rfl ?_
    obtain ⟨q11, eq11, h⟩ := g_bd h
    have mo := oX6_sortFound_b88 h
    refine g_callAiV C 183 [gi x1] (kX6_tellingFound hN hrec hch.2 eq11) qs_X6_154 (by omega) (by omega) rfl rfl rfl rfl (Nat.le_of_ble_eq_true rfl) ⟨mo.1, mo.2⟩ (And.intro ⟨by omega, by omega⟩ True.intro) True.intro dX6_sortFound_85 (fun ad1 ln1 hch1 => ?_)
    have hch := g_chg.trans (by omega) hch hch1
    refine g_sub [] rfl ?_
    exact wX6_sortFound_b88 hN hrec C hr hch h
  have h := g_ff c10 h
  by_cases c12 : q1.2 = 6
  · have h := g_tt c12 h
    refine g_tableIn C dX6_sortFound_6 (tgt := 89) (by rw [c12]; decide) (by rw [c12]; decide) (by rw [c12]; rfl) (by decide) ?_
    refine g_aload_n C 0 dX6_sortFound_89 rfl ?_
    refine g_iload_n C 1 dX6_sortFound_90 rfl ?_
    obtain ⟨q13, eq13, h⟩ := g_bd h
    have mo := oX6_sortFound_b94 h
    refine g_callAiV C 183 [gi x1] (kX6_axleFound hN hrec hch.2 eq13) qs_X6_157 (by omega) (by omega) rfl rfl rfl rfl (Nat.le_of_ble_eq_true rfl) ⟨mo.1, mo.2⟩ (And.intro ⟨by omega, by omega⟩ True.intro) True.intro dX6_sortFound_91 (fun ad1 ln1 hch1 => ?_)
    have hch := g_chg.trans (by omega) hch hch1
    refine g_sub [] rfl ?_
    exact wX6_sortFound_b94 hN hrec C hr hch h
  have h := g_ff c12 h
  by_cases c14 : q1.2 = 7
  · have h := g_tt c14 h
    refine g_tableIn C dX6_sortFound_6 (tgt := 95) (by rw [c14]; decide) (by rw [c14]; decide) (by rw [c14]; rfl) (by decide) ?_
    refine g_aload_n C 0 dX6_sortFound_95 rfl ?_
    refine g_iload_n C 1 dX6_sortFound_96 rfl ?_
    obtain ⟨q15, eq15, h⟩ := g_bd h
    have mo := oX6_sortFound_b100 h
    refine g_callAiV C 183 [gi x1] (kX6_endFound hN hrec hch.2 eq15) qs_X6_160 (by omega) (by omega) rfl rfl rfl rfl (Nat.le_of_ble_eq_true rfl) ⟨mo.1, mo.2⟩ (And.intro ⟨by omega, by omega⟩ True.intro) True.intro dX6_sortFound_97 (fun ad1 ln1 hch1 => ?_)
    have hch := g_chg.trans (by omega) hch hch1
    refine g_sub [] rfl ?_
    exact wX6_sortFound_b100 hN hrec C hr hch h
  have h := g_ff c14 h
  refine g_tableOut C dX6_sortFound_6 (tgt := 101) (g_sw0_7 c2 c3 c4 c6 c8 c10 c12 c14) (by decide) ?_
  refine g_aload_n C 0 dX6_sortFound_101 rfl ?_
  refine g_iload_n C 1 dX6_sortFound_102 rfl ?_
  obtain ⟨q16, eq16, h⟩ := g_bd h
  have mo := oX6_sortFound_b106 h
  refine g_callAiV C 183 [gi x1] (kX6_choiceFound hN hrec hch.2 eq16) qs_X6_163 (by omega) (by omega) rfl rfl rfl rfl (Nat.le_of_ble_eq_true rfl) ⟨mo.1, mo.2⟩ (And.intro ⟨by omega, by omega⟩ True.intro) True.intro dX6_sortFound_103 (fun ad1 ln1 hch1 => ?_)
  have hch := g_chg.trans (by omega) hch hch1
  refine g_sub [] rfl ?_
  exact wX6_sortFound_b106 hN hrec C hr hch h

set_option maxHeartbeats 2000000 in
set_option maxRecDepth 20000 in
theorem kX6_sortFound {l : Launch} {D : va_G} {g : gT} {N : Nat} (hN : 193 ≤ N) {rec : Nat → gM → Int32 → Option (gM × (Nat × Nat × Nat) × Int32)} {fu : Nat} (hrec : ∀ {ad ln : Nat → Nat} {cp : Nat} (_ : g_cap ln cp) {A A' : gM} {x1 : Int32} {u : Nat × Nat × Nat} {r : Int32}, rec cp A x1 = some (A', u, r) → gAi l yX6_found cX6_found 3 (some .int) (1330 + 4 * fu) D g N ad ln A [gr 183, gi x1] A' u r) {ad ln : Nat → Nat} {cp : Nat} (hcp : g_cap ln cp) {A A' : gM} {x1 : Int32} {u : Nat × Nat × Nat} {r : Int32} (h : mX6_sortFound N cp rec A x1 = some (A', u, r)) : gAi l yX6_sortFound cX6_sortFound 2 (some .int) ((1330 + 4 * fu + 3)) D g N ad ln A [gr 183, gi x1] A' u r := by
  refine g_metAi (by decide) (Nat.le_of_ble_eq_true rfl) ?_
  intro p e s m args below meth c C hr
  refine g_sub [0, 1] rfl ?_
  exact wX6_sortFound_b0 hN hrec C hr (g_chg.rf hcp) h
def mX6_found_b31 (N cp k n : Nat) (rec : Nat → gM → Int32 → Option (gM × (Nat × Nat × Nat) × Int32)) (A : gM) (s0 : Int32) : Option (gM × (Nat × Nat × Nat) × Int32) :=
  some (A, (cp, k, n), s0)
def mX6_found_b30 (N cp k n : Nat) (rec : Nat → gM → Int32 → Option (gM × (Nat × Nat × Nat) × Int32)) (A : gM) (x2 : Int32) : Option (gM × (Nat × Nat × Nat) × Int32) :=
  mX6_found_b31 N cp k n rec A x2
def mX6_found_b5 (N cp k n : Nat) (rec : Nat → gM → Int32 → Option (gM × (Nat × Nat × Nat) × Int32)) (A : gM) (x1 : Int32) (s0 : Int32) : Option (gM × (Nat × Nat × Nat) × Int32) :=
  if s0 = (-1) then
  mX6_found_b30 N cp k n rec A s0
  else
  (mX6_codes cp 1250 A s0).bind fun q2 =>
  if q2.2 ≤ 60 then
  mX6_found_b30 N cp k n rec q2.1 s0
  else
  (mX6_failed cp q2.1 4 x1).bind fun q4 =>
  mX6_found_b31 N cp k n rec q4.1 q4.2
def mX6_found_b0 (N cp k n : Nat) (rec : Nat → gM → Int32 → Option (gM × (Nat × Nat × Nat) × Int32)) (A : gM) (x1 : Int32) : Option (gM × (Nat × Nat × Nat) × Int32) :=
  (mX6_sortFound N cp rec A x1).bind fun q1 =>
  mX6_found_b5 N q1.2.1.1 (k + q1.2.1.2.1) (n + q1.2.1.2.2) rec q1.1 x1 q1.2.2
def mX6_found_body (N cp : Nat) (rec : Nat → gM → Int32 → Option (gM × (Nat × Nat × Nat) × Int32)) (A : gM) (x1 : Int32) : Option (gM × (Nat × Nat × Nat) × Int32) := mX6_found_b0 N cp 0 0 rec A x1
def mX6_found (N : Nat) : Nat → Nat → gM → Int32 → Option (gM × (Nat × Nat × Nat) × Int32)
  | 0 => fun _ _ _ => none
  | f + 1 => fun cp => mX6_found_body N cp (mX6_found N f)
set_option maxHeartbeats 2000000 in
set_option maxRecDepth 20000 in
theorem oX6_found_b31 {N : Nat} {rec : Nat → gM → Int32 → Option (gM × (Nat × Nat × Nat) × Int32)} {A' : gM} {u : Nat × Nat × Nat} {r : Int32}  {cp k n : Nat} {A : gM} {s0 : Int32} (h : mX6_found_b31 N cp k n rec A s0 = some (A', u, r)) : k ≤ u.2.1 ∧ n ≤ u.2.2 := by
  unfold mX6_found_b31 at h
  obtain ⟨rfl, h2⟩ := Prod.mk.inj (Option.some.inj h)
  obtain ⟨rfl, rfl⟩ := Prod.mk.inj h2
  exact ⟨Nat.le_refl _, Nat.le_refl _⟩

set_option maxHeartbeats 2000000 in
set_option maxRecDepth 20000 in
theorem wX6_found_b31 (hN : 193 ≤ N)  {rec : Nat → gM → Int32 → Option (gM × (Nat × Nat × Nat) × Int32)} {fu : Nat} (hrec : ∀ {ad ln : Nat → Nat} {cp : Nat} (_ : g_cap ln cp) {A A' : gM} {x1 : Int32} {u : Nat × Nat × Nat} {r : Int32}, rec cp A x1 = some (A', u, r) → gAi l yX6_found cX6_found 3 (some .int) (1330 + 4 * fu) D g N ad ln A [gr 183, gi x1] A' u r) {A0 A' : gM} {u : Nat × Nat × Nat} {r : Int32} (C : gC p (g_rmx (1330 + 4 * fu + 4) u.2.1 u.2.2) s m args meth c cX6_found RX6 3 D g (va_A (gw g ad0 ln0 A0 N) s.heap.size) (1330 + 4 * fu + 4)) (hr : meth.sig.returnType = some .int)  {cp k n : Nat} (hch : g_chg N ad0 ln0 ad ln cp) {A : gM} {s0 : Int32} (h : mX6_found_b31 N cp k n rec A s0 = some (A', u, r)) : gJ p l e (g_rmx (1330 + 4 * fu + 4) u.2.1 u.2.2) s m args below meth c (gEAi below D g N ad0 ln0 A0 A' u r args s) 3 D g (va_A (gw g ad0 ln0 A0 N) s.heap.size) N ad ln A [] k n 31 [gi s0] := by
  have hkn := oX6_found_b31 h
  unfold mX6_found_b31 at h
  obtain ⟨rfl, h2⟩ := Prod.mk.inj (Option.some.inj h)
  obtain ⟨rfl, rfl⟩ := Prod.mk.inj h2
  exact g_retAi C hch hr dX6_found_31

set_option maxHeartbeats 2000000 in
set_option maxRecDepth 20000 in
theorem oX6_found_b30 {N : Nat} {rec : Nat → gM → Int32 → Option (gM × (Nat × Nat × Nat) × Int32)} {A' : gM} {u : Nat × Nat × Nat} {r : Int32}  {cp k n : Nat} {A : gM} {x2 : Int32} (h : mX6_found_b30 N cp k n rec A x2 = some (A', u, r)) : k ≤ u.2.1 ∧ n ≤ u.2.2 := by
  unfold mX6_found_b30 at h
  exact oX6_found_b31 h

set_option maxHeartbeats 2000000 in
set_option maxRecDepth 20000 in
theorem wX6_found_b30 (hN : 193 ≤ N)  {rec : Nat → gM → Int32 → Option (gM × (Nat × Nat × Nat) × Int32)} {fu : Nat} (hrec : ∀ {ad ln : Nat → Nat} {cp : Nat} (_ : g_cap ln cp) {A A' : gM} {x1 : Int32} {u : Nat × Nat × Nat} {r : Int32}, rec cp A x1 = some (A', u, r) → gAi l yX6_found cX6_found 3 (some .int) (1330 + 4 * fu) D g N ad ln A [gr 183, gi x1] A' u r) {A0 A' : gM} {u : Nat × Nat × Nat} {r : Int32} (C : gC p (g_rmx (1330 + 4 * fu + 4) u.2.1 u.2.2) s m args meth c cX6_found RX6 3 D g (va_A (gw g ad0 ln0 A0 N) s.heap.size) (1330 + 4 * fu + 4)) (hr : meth.sig.returnType = some .int)  {cp k n : Nat} (hch : g_chg N ad0 ln0 ad ln cp) {A : gM} {x2 : Int32} (h : mX6_found_b30 N cp k n rec A x2 = some (A', u, r)) : gJ p l e (g_rmx (1330 + 4 * fu + 4) u.2.1 u.2.2) s m args below meth c (gEAi below D g N ad0 ln0 A0 A' u r args s) 3 D g (va_A (gw g ad0 ln0 A0 N) s.heap.size) N ad ln A [(2, gi x2)] k n 30 [] := by
  have hkn := oX6_found_b30 h
  unfold mX6_found_b30 at h
  refine g_iload_n C 0 dX6_found_30 rfl ?_
  refine g_sub [] rfl ?_
  exact wX6_found_b31 hN hrec C hr hch h

set_option maxHeartbeats 2000000 in
set_option maxRecDepth 20000 in
theorem oX6_found_b5 {N : Nat} {rec : Nat → gM → Int32 → Option (gM × (Nat × Nat × Nat) × Int32)} {A' : gM} {u : Nat × Nat × Nat} {r : Int32}  {cp k n : Nat} {A : gM} {x1 : Int32} {s0 : Int32} (h : mX6_found_b5 N cp k n rec A x1 s0 = some (A', u, r)) : k ≤ u.2.1 ∧ n ≤ u.2.2 := by
  unfold mX6_found_b5 at h
  by_cases c1 : s0 = (-1)
  · have h := g_tt c1 h
    exact oX6_found_b30 h
  · have h := g_ff c1 h
    obtain ⟨q2, eq2, h⟩ := g_bd h
    by_cases c3 : q2.2 ≤ 60
    · have h := g_tt c3 h
      exact oX6_found_b30 h
    · have h := g_ff c3 h
      obtain ⟨q4, eq4, h⟩ := g_bd h
      exact oX6_found_b31 h

set_option maxHeartbeats 2000000 in
set_option maxRecDepth 20000 in
theorem wX6_found_b5 (hN : 193 ≤ N)  {rec : Nat → gM → Int32 → Option (gM × (Nat × Nat × Nat) × Int32)} {fu : Nat} (hrec : ∀ {ad ln : Nat → Nat} {cp : Nat} (_ : g_cap ln cp) {A A' : gM} {x1 : Int32} {u : Nat × Nat × Nat} {r : Int32}, rec cp A x1 = some (A', u, r) → gAi l yX6_found cX6_found 3 (some .int) (1330 + 4 * fu) D g N ad ln A [gr 183, gi x1] A' u r) {A0 A' : gM} {u : Nat × Nat × Nat} {r : Int32} (C : gC p (g_rmx (1330 + 4 * fu + 4) u.2.1 u.2.2) s m args meth c cX6_found RX6 3 D g (va_A (gw g ad0 ln0 A0 N) s.heap.size) (1330 + 4 * fu + 4)) (hr : meth.sig.returnType = some .int)  {cp k n : Nat} (hch : g_chg N ad0 ln0 ad ln cp) {A : gM} {x1 : Int32} {s0 : Int32} (h : mX6_found_b5 N cp k n rec A x1 s0 = some (A', u, r)) : gJ p l e (g_rmx (1330 + 4 * fu + 4) u.2.1 u.2.2) s m args below meth c (gEAi below D g N ad0 ln0 A0 A' u r args s) 3 D g (va_A (gw g ad0 ln0 A0 N) s.heap.size) N ad ln A [(0, gr 183), (1, gi x1)] k n 5 [gi s0] := by
  have hkn := oX6_found_b5 h
  unfold mX6_found_b5 at h
  refine g_istore_n C dX6_found_5 (by decide) rfl ?_
  refine g_iload_n C 0 dX6_found_6 rfl ?_
  refine g_iconst (v := (-1)) C dX6_found_7 (by decide) ?_
  refine g_icmp_eq C dX6_found_8 (tgt := 30) (by decide) (fun c1 => ?_) (fun c1 => ?_)
  · have h := g_tt c1 h
    refine g_sub [0] rfl ?_
    exact wX6_found_b30 hN hrec C hr hch h
  · have h := g_ff c1 h
    refine g_aload_n C 1 dX6_found_11 rfl ?_
    refine g_iload_n C 0 dX6_found_12 rfl ?_
    obtain ⟨q2, eq2, h⟩ := g_bd h
    refine g_calliV C 183 [gi s0] (kX6_codes hN hch.2 1250 eq2) qs_X6_111 (by omega) (by omega) rfl rfl rfl rfl (Nat.le_of_ble_eq_true rfl) hkn dX6_found_13 ?_
    refine g_bipush (v := 60) C dX6_found_16 (by decide) ?_
    refine g_icmp_le C dX6_found_18 (tgt := 30) (by decide) (fun c3 => ?_) (fun c3 => ?_)
    · have h := g_tt c3 h
      refine g_sub [0] rfl ?_
      exact wX6_found_b30 hN hrec C hr hch h
    · have h := g_ff c3 h
      refine g_aload_n C 1 dX6_found_21 rfl ?_
      refine g_iconst (v := 4) C dX6_found_22 (by decide) ?_
      refine g_iload_n C 2 dX6_found_23 rfl ?_
      obtain ⟨q4, eq4, h⟩ := g_bd h
      refine g_calliV C 183 [gi 4, gi x1] (kX6_failed hN hch.2 eq4) qs_X6_105 (by omega) (by omega) rfl rfl rfl rfl (Nat.le_of_ble_eq_true rfl) hkn dX6_found_24 ?_
      refine g_goto C dX6_found_27 (tgt := 31) (by decide) ?_
      refine g_sub [] rfl ?_
      exact wX6_found_b31 hN hrec C hr hch h

set_option maxHeartbeats 2000000 in
set_option maxRecDepth 20000 in
theorem oX6_found_b0 {N : Nat} {rec : Nat → gM → Int32 → Option (gM × (Nat × Nat × Nat) × Int32)} {A' : gM} {u : Nat × Nat × Nat} {r : Int32}  {cp k n : Nat} {A : gM} {x1 : Int32} (h : mX6_found_b0 N cp k n rec A x1 = some (A', u, r)) : k ≤ u.2.1 ∧ n ≤ u.2.2 := by
  unfold mX6_found_b0 at h
  obtain ⟨q1, eq1, h⟩ := g_bd h
  have mo := oX6_found_b5 h
  exact ⟨by omega, by omega⟩

set_option maxHeartbeats 2000000 in
set_option maxRecDepth 20000 in
theorem wX6_found_b0 (hN : 193 ≤ N)  {rec : Nat → gM → Int32 → Option (gM × (Nat × Nat × Nat) × Int32)} {fu : Nat} (hrec : ∀ {ad ln : Nat → Nat} {cp : Nat} (_ : g_cap ln cp) {A A' : gM} {x1 : Int32} {u : Nat × Nat × Nat} {r : Int32}, rec cp A x1 = some (A', u, r) → gAi l yX6_found cX6_found 3 (some .int) (1330 + 4 * fu) D g N ad ln A [gr 183, gi x1] A' u r) {A0 A' : gM} {u : Nat × Nat × Nat} {r : Int32} (C : gC p (g_rmx (1330 + 4 * fu + 4) u.2.1 u.2.2) s m args meth c cX6_found RX6 3 D g (va_A (gw g ad0 ln0 A0 N) s.heap.size) (1330 + 4 * fu + 4)) (hr : meth.sig.returnType = some .int)  {cp k n : Nat} (hch : g_chg N ad0 ln0 ad ln cp) {A : gM} {x1 : Int32} (h : mX6_found_b0 N cp k n rec A x1 = some (A', u, r)) : gJ p l e (g_rmx (1330 + 4 * fu + 4) u.2.1 u.2.2) s m args below meth c (gEAi below D g N ad0 ln0 A0 A' u r args s) 3 D g (va_A (gw g ad0 ln0 A0 N) s.heap.size) N ad ln A [(0, gr 183), (1, gi x1)] k n 0 [] := by
  have hkn := oX6_found_b0 h
  unfold mX6_found_b0 at h
  refine g_aload_n C 0 dX6_found_0 rfl ?_
  refine g_iload_n C 1 dX6_found_1 rfl ?_
  obtain ⟨q1, eq1, h⟩ := g_bd h
  have mo := oX6_found_b5 h
  refine g_callAiV C 183 [gi x1] (kX6_sortFound hN hrec hch.2 eq1) qs_X6_166 (by omega) (by omega) rfl rfl rfl rfl (Nat.le_of_ble_eq_true rfl) ⟨mo.1, mo.2⟩ (And.intro ⟨by omega, by omega⟩ True.intro) True.intro dX6_found_2 (fun ad1 ln1 hch1 => ?_)
  have hch := g_chg.trans (by omega) hch hch1
  refine g_sub [0, 1] rfl ?_
  exact wX6_found_b5 hN hrec C hr hch h

set_option maxHeartbeats 2000000 in
set_option maxRecDepth 20000 in
theorem kX6_found_body {l : Launch} {D : va_G} {g : gT} {N : Nat} (hN : 193 ≤ N) {rec : Nat → gM → Int32 → Option (gM × (Nat × Nat × Nat) × Int32)} {fu : Nat} (hrec : ∀ {ad ln : Nat → Nat} {cp : Nat} (_ : g_cap ln cp) {A A' : gM} {x1 : Int32} {u : Nat × Nat × Nat} {r : Int32}, rec cp A x1 = some (A', u, r) → gAi l yX6_found cX6_found 3 (some .int) (1330 + 4 * fu) D g N ad ln A [gr 183, gi x1] A' u r) {ad ln : Nat → Nat} {cp : Nat} (hcp : g_cap ln cp) {A A' : gM} {x1 : Int32} {u : Nat × Nat × Nat} {r : Int32} (h : mX6_found_body N cp rec A x1 = some (A', u, r)) : gAi l yX6_found cX6_found 3 (some .int) ((1330 + 4 * fu + 4)) D g N ad ln A [gr 183, gi x1] A' u r := by
  refine g_metAi (by decide) (Nat.le_of_ble_eq_true rfl) ?_
  intro p e s m args below meth c C hr
  refine g_sub [0, 1] rfl ?_
  exact wX6_found_b0 hN hrec C hr (g_chg.rf hcp) h
set_option maxHeartbeats 2000000 in
set_option maxRecDepth 20000 in
theorem kX6_found {l : Launch} {D : va_G} {g : gT} {N : Nat} (hN : 193 ≤ N) : ∀ (f : Nat) {ad ln : Nat → Nat} {cp : Nat} (_ : g_cap ln cp) {A A' : gM} {x1 : Int32} {u : Nat × Nat × Nat} {r : Int32}, mX6_found N f cp A x1 = some (A', u, r) → gAi l yX6_found cX6_found 3 (some .int) (1330 + 4 * f) D g N ad ln A [gr 183, gi x1] A' u r
  | 0, ad, ln, cp, hcp, A, A', x1, u, r, h => by cases h
  | f + 1, ad, ln, cp, hcp, A, A', x1, u, r, h => kX6_found_body hN (fun {ad ln} {cp} hcp {A A'} {x1} {u} {r} h => kX6_found hN f hcp h) hcp h
def mX6_typeOf_b25 (N cp k n : Nat) (A : gM) (s0 : Int32) : Option (gM × (Nat × Nat × Nat) × Int32) :=
  some (A, (cp, k, n), s0)
def mX6_typeOf_b0 (N cp k n : Nat) (A : gM) (x1 : Int32) : Option (gM × (Nat × Nat × Nat) × Int32) :=
  g_let (g_up A 183 3 0) fun A1 =>
  g_let (g_up A1 183 9 0) fun A2 =>
  g_let (g_up A2 183 12 0) fun A3 =>
  g_let (g_up A3 183 13 (-1)) fun A4 =>
  (mX6_found N 45 cp A4 x1).bind fun q5 =>
  mX6_typeOf_b25 N q5.2.1.1 (k + q5.2.1.2.1) (n + q5.2.1.2.2) q5.1 q5.2.2
def mX6_typeOf (N cp : Nat) (A : gM) (x1 : Int32) : Option (gM × (Nat × Nat × Nat) × Int32) := mX6_typeOf_b0 N cp 0 0 A x1
set_option maxHeartbeats 2000000 in
set_option maxRecDepth 20000 in
theorem oX6_typeOf_b25 {N : Nat} {A' : gM} {u : Nat × Nat × Nat} {r : Int32}  {cp k n : Nat} {A : gM} {s0 : Int32} (h : mX6_typeOf_b25 N cp k n A s0 = some (A', u, r)) : k ≤ u.2.1 ∧ n ≤ u.2.2 := by
  unfold mX6_typeOf_b25 at h
  obtain ⟨rfl, h2⟩ := Prod.mk.inj (Option.some.inj h)
  obtain ⟨rfl, rfl⟩ := Prod.mk.inj h2
  exact ⟨Nat.le_refl _, Nat.le_refl _⟩

set_option maxHeartbeats 2000000 in
set_option maxRecDepth 20000 in
theorem wX6_typeOf_b25 (hN : 193 ≤ N)  {A0 A' : gM} {u : Nat × Nat × Nat} {r : Int32} (C : gC p (g_rmx 1511 u.2.1 u.2.2) s m args meth c cX6_typeOf RX6 2 D g (va_A (gw g ad0 ln0 A0 N) s.heap.size) 1511) (hr : meth.sig.returnType = some .int)  {cp k n : Nat} (hch : g_chg N ad0 ln0 ad ln cp) {A : gM} {s0 : Int32} (h : mX6_typeOf_b25 N cp k n A s0 = some (A', u, r)) : gJ p l e (g_rmx 1511 u.2.1 u.2.2) s m args below meth c (gEAi below D g N ad0 ln0 A0 A' u r args s) 2 D g (va_A (gw g ad0 ln0 A0 N) s.heap.size) N ad ln A [] k n 25 [gi s0] := by
  have hkn := oX6_typeOf_b25 h
  unfold mX6_typeOf_b25 at h
  obtain ⟨rfl, h2⟩ := Prod.mk.inj (Option.some.inj h)
  obtain ⟨rfl, rfl⟩ := Prod.mk.inj h2
  exact g_retAi C hch hr dX6_typeOf_25

set_option maxHeartbeats 2000000 in
set_option maxRecDepth 20000 in
theorem oX6_typeOf_b0 {N : Nat} {A' : gM} {u : Nat × Nat × Nat} {r : Int32}  {cp k n : Nat} {A : gM} {x1 : Int32} (h : mX6_typeOf_b0 N cp k n A x1 = some (A', u, r)) : k ≤ u.2.1 ∧ n ≤ u.2.2 := by
  unfold mX6_typeOf_b0 at h
  obtain ⟨A1, eA1, h⟩ := g_lt h
  obtain ⟨A2, eA2, h⟩ := g_lt h
  obtain ⟨A3, eA3, h⟩ := g_lt h
  obtain ⟨A4, eA4, h⟩ := g_lt h
  obtain ⟨q5, eq5, h⟩ := g_bd h
  have mo := oX6_typeOf_b25 h
  exact ⟨by omega, by omega⟩

set_option maxHeartbeats 2000000 in
set_option maxRecDepth 20000 in
theorem wX6_typeOf_b0 (hN : 193 ≤ N)  {A0 A' : gM} {u : Nat × Nat × Nat} {r : Int32} (C : gC p (g_rmx 1511 u.2.1 u.2.2) s m args meth c cX6_typeOf RX6 2 D g (va_A (gw g ad0 ln0 A0 N) s.heap.size) 1511) (hr : meth.sig.returnType = some .int)  {cp k n : Nat} (hch : g_chg N ad0 ln0 ad ln cp) {A : gM} {x1 : Int32} (h : mX6_typeOf_b0 N cp k n A x1 = some (A', u, r)) : gJ p l e (g_rmx 1511 u.2.1 u.2.2) s m args below meth c (gEAi below D g N ad0 ln0 A0 A' u r args s) 2 D g (va_A (gw g ad0 ln0 A0 N) s.heap.size) N ad ln A [(0, gr 183), (1, gi x1)] k n 0 [] := by
  have hkn := oX6_typeOf_b0 h
  unfold mX6_typeOf_b0 at h
  refine g_aload_n C 0 dX6_typeOf_0 rfl ?_
  refine g_iconst (v := 0) C dX6_typeOf_1 (by decide) ?_
  obtain ⟨A1, eA1, h⟩ := g_lt h
  refine g_put C 183 3 tyX6 tyX6_ok nmX6 (by omega) rfl rfl gu_6 (by decide) qf_X6_78 rfl (by decide +kernel) (Nat.le_of_ble_eq_true rfl) rfl eA1 dX6_typeOf_2 ?_
  refine g_aload_n C 0 dX6_typeOf_5 rfl ?_
  refine g_iconst (v := 0) C dX6_typeOf_6 (by decide) ?_
  obtain ⟨A2, eA2, h⟩ := g_lt h
  refine g_put C 183 9 tyX6 tyX6_ok nmX6 (by omega) rfl rfl gu_6 (by decide) qf_X6_119 rfl (by decide +kernel) (Nat.le_of_ble_eq_true rfl) rfl eA2 dX6_typeOf_7 ?_
  refine g_aload_n C 0 dX6_typeOf_10 rfl ?_
  refine g_iconst (v := 0) C dX6_typeOf_11 (by decide) ?_
  obtain ⟨A3, eA3, h⟩ := g_lt h
  refine g_put C 183 12 tyX6 tyX6_ok nmX6 (by omega) rfl rfl gu_6 (by decide) qf_X6_99 rfl (by decide +kernel) (Nat.le_of_ble_eq_true rfl) rfl eA3 dX6_typeOf_12 ?_
  refine g_aload_n C 0 dX6_typeOf_15 rfl ?_
  refine g_iconst (v := (-1)) C dX6_typeOf_16 (by decide) ?_
  obtain ⟨A4, eA4, h⟩ := g_lt h
  refine g_put C 183 13 tyX6 tyX6_ok nmX6 (by omega) rfl rfl gu_6 (by decide) qf_X6_102 rfl (by decide +kernel) (Nat.le_of_ble_eq_true rfl) rfl eA4 dX6_typeOf_17 ?_
  refine g_aload_n C 0 dX6_typeOf_20 rfl ?_
  refine g_iload_n C 1 dX6_typeOf_21 rfl ?_
  obtain ⟨q5, eq5, h⟩ := g_bd h
  have mo := oX6_typeOf_b25 h
  refine g_callAiV C 183 [gi x1] (kX6_found hN 45 hch.2 eq5) qs_X6_139 (by omega) (by omega) rfl rfl rfl rfl (Nat.le_of_ble_eq_true rfl) ⟨mo.1, mo.2⟩ (And.intro ⟨by omega, by omega⟩ True.intro) True.intro dX6_typeOf_22 (fun ad1 ln1 hch1 => ?_)
  have hch := g_chg.trans (by omega) hch hch1
  refine g_sub [] rfl ?_
  exact wX6_typeOf_b25 hN C hr hch h

set_option maxHeartbeats 2000000 in
set_option maxRecDepth 20000 in
theorem kX6_typeOf {l : Launch} {D : va_G} {g : gT} {N : Nat} (hN : 193 ≤ N) {ad ln : Nat → Nat} {cp : Nat} (hcp : g_cap ln cp) {A A' : gM} {x1 : Int32} {u : Nat × Nat × Nat} {r : Int32} (h : mX6_typeOf N cp A x1 = some (A', u, r)) : gAi l yX6_typeOf cX6_typeOf 2 (some .int) (1511) D g N ad ln A [gr 183, gi x1] A' u r := by
  refine g_metAi (by decide) (Nat.le_of_ble_eq_true rfl) ?_
  intro p e s m args below meth c C hr
  refine g_sub [0, 1] rfl ?_
  exact wX6_typeOf_b0 hN C hr (g_chg.rf hcp) h
end M4
