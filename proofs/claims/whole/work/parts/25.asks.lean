theorem qc_X6_208 : Cond.constantLong RX6 208 1597 ∈ gtb := g_tb (List.mem_of_getElem? (i := 1036) (by decide +kernel)) (by decide +kernel)
theorem qc_X6_210 : Cond.constantLong RX6 210 31 ∈ gtb := g_tb (List.mem_of_getElem? (i := 1037) (by decide +kernel)) (by decide +kernel)
theorem qs_X6_173 : g_site RX6 RX6 173 yX6_typeOf cX6_typeOf 2 (some .int) 1 := ⟨g_tb (List.mem_of_getElem? (i := 877) (by decide +kernel)) (by decide +kernel), g_tb (List.mem_of_getElem? (i := 879) (by decide +kernel)) (by decide +kernel), g_tb (List.mem_of_getElem? (i := 43) (by decide +kernel)) (by decide +kernel), g_tb (List.mem_of_getElem? (i := 79) (by decide +kernel)) (by decide +kernel), g_tb (List.mem_of_getElem? (i := 880) (by decide +kernel)) (by decide +kernel), ⟨rfl, by decide, by decide, by decide +kernel⟩, by decide⟩
theorem qs_X6_188 : g_site RX6 RX6 188 yX6_row cX6_row 6 (some (.array .int)) 1 := ⟨g_tb (List.mem_of_getElem? (i := 977) (by decide +kernel)) (by decide +kernel), g_tb (List.mem_of_getElem? (i := 979) (by decide +kernel)) (by decide +kernel), g_tb (List.mem_of_getElem? (i := 67) (by decide +kernel)) (by decide +kernel), g_tb (List.mem_of_getElem? (i := 79) (by decide +kernel)) (by decide +kernel), g_tb (List.mem_of_getElem? (i := 980) (by decide +kernel)) (by decide +kernel), ⟨rfl, by decide, by decide, by decide +kernel⟩, by decide⟩
theorem qs_X6_192 : g_site RX6 RX6 192 yX6_typeTold cX6_typeTold 9 (some .int) 2 := ⟨g_tb (List.mem_of_getElem? (i := 873) (by decide +kernel)) (by decide +kernel), g_tb (List.mem_of_getElem? (i := 875) (by decide +kernel)) (by decide +kernel), g_tb (List.mem_of_getElem? (i := 42) (by decide +kernel)) (by decide +kernel), g_tb (List.mem_of_getElem? (i := 79) (by decide +kernel)) (by decide +kernel), g_tb (List.mem_of_getElem? (i := 876) (by decide +kernel)) (by decide +kernel), ⟨rfl, by decide, by decide, by decide +kernel⟩, by decide⟩
theorem qs_X6_195 : g_site RX6 RX6 195 yX6_counted cX6_counted 4 (some .int) 1 := ⟨g_tb (List.mem_of_getElem? (i := 993) (by decide +kernel)) (by decide +kernel), g_tb (List.mem_of_getElem? (i := 995) (by decide +kernel)) (by decide +kernel), g_tb (List.mem_of_getElem? (i := 69) (by decide +kernel)) (by decide +kernel), g_tb (List.mem_of_getElem? (i := 79) (by decide +kernel)) (by decide +kernel), g_tb (List.mem_of_getElem? (i := 996) (by decide +kernel)) (by decide +kernel), ⟨rfl, by decide, by decide, by decide +kernel⟩, by decide⟩
theorem qs_X6_202 : g_site RX6 RX6 202 yX6_turned cX6_turned 3 (some .int) 2 := ⟨g_tb (List.mem_of_getElem? (i := 1012) (by decide +kernel)) (by decide +kernel), g_tb (List.mem_of_getElem? (i := 1014) (by decide +kernel)) (by decide +kernel), g_tb (List.mem_of_getElem? (i := 70) (by decide +kernel)) (by decide +kernel), g_tb (List.mem_of_getElem? (i := 79) (by decide +kernel)) (by decide +kernel), g_tb (List.mem_of_getElem? (i := 1015) (by decide +kernel)) (by decide +kernel), ⟨rfl, by decide, by decide, by decide +kernel⟩, by decide⟩
theorem qs_X6_205 : g_site RX6 RX6 205 yX6_length cX6_length 3 (some .int) 1 := ⟨g_tb (List.mem_of_getElem? (i := 1024) (by decide +kernel)) (by decide +kernel), g_tb (List.mem_of_getElem? (i := 1026) (by decide +kernel)) (by decide +kernel), g_tb (List.mem_of_getElem? (i := 71) (by decide +kernel)) (by decide +kernel), g_tb (List.mem_of_getElem? (i := 79) (by decide +kernel)) (by decide +kernel), g_tb (List.mem_of_getElem? (i := 1027) (by decide +kernel)) (by decide +kernel), ⟨rfl, by decide, by decide, by decide +kernel⟩, by decide⟩
theorem dX6_row_0 : decode cX6_row 0 = .ok (.aload_n 0, 1) := by decide +kernel
theorem dX6_row_1 : decode cX6_row 1 = .ok (.iload_n 1, 1) := by decide +kernel
theorem dX6_row_2 : decode cX6_row 2 = .ok (.invokevirtual 173, 3) := by decide +kernel
theorem dX6_row_5 : decode cX6_row 5 = .ok (.istore_n 2, 1) := by decide +kernel
theorem dX6_row_6 : decode cX6_row 6 = .ok (.iload_n 2, 1) := by decide +kernel
theorem dX6_row_7 : decode cX6_row 7 = .ok (.iconst (-1), 1) := by decide +kernel
theorem dX6_row_8 : decode cX6_row 8 = .ok (.if_icmp .ne 7, 3) := by decide +kernel
theorem dX6_row_11 : decode cX6_row 11 = .ok (.iconst 0, 1) := by decide +kernel
theorem dX6_row_12 : decode cX6_row 12 = .ok (.newarray .int, 2) := by decide +kernel
theorem dX6_row_14 : decode cX6_row 14 = .ok (.areturn, 1) := by decide +kernel
theorem dX6_row_15 : decode cX6_row 15 = .ok (.aload_n 0, 1) := by decide +kernel
theorem dX6_row_16 : decode cX6_row 16 = .ok (.iload_n 2, 1) := by decide +kernel
theorem dX6_row_17 : decode cX6_row 17 = .ok (.invokevirtual 111, 3) := by decide +kernel
theorem dX6_row_20 : decode cX6_row 20 = .ok (.newarray .int, 2) := by decide +kernel
theorem dX6_row_22 : decode cX6_row 22 = .ok (.astore_n 3, 1) := by decide +kernel
theorem dX6_row_23 : decode cX6_row 23 = .ok (.bipush 61, 2) := by decide +kernel
theorem dX6_row_25 : decode cX6_row 25 = .ok (.newarray .int, 2) := by decide +kernel
theorem dX6_row_27 : decode cX6_row 27 = .ok (.astore 4, 2) := by decide +kernel
theorem dX6_row_29 : decode cX6_row 29 = .ok (.iconst 0, 1) := by decide +kernel
theorem dX6_row_30 : decode cX6_row 30 = .ok (.istore 5, 2) := by decide +kernel
theorem dX6_row_32 : decode cX6_row 32 = .ok (.iload 5, 2) := by decide +kernel
theorem dX6_row_34 : decode cX6_row 34 = .ok (.bipush 60, 2) := by decide +kernel
theorem dX6_row_36 : decode cX6_row 36 = .ok (.if_icmp .gt 15, 3) := by decide +kernel
theorem dX6_row_39 : decode cX6_row 39 = .ok (.aload 4, 2) := by decide +kernel
theorem dX6_row_41 : decode cX6_row 41 = .ok (.iload 5, 2) := by decide +kernel
theorem dX6_row_43 : decode cX6_row 43 = .ok (.iconst (-1), 1) := by decide +kernel
theorem dX6_row_44 : decode cX6_row 44 = .ok (.iastore, 1) := by decide +kernel
theorem dX6_row_45 : decode cX6_row 45 = .ok (.iinc 5 1, 3) := by decide +kernel
theorem dX6_row_48 : decode cX6_row 48 = .ok (.goto (-16), 3) := by decide +kernel
theorem dX6_row_51 : decode cX6_row 51 = .ok (.aload_n 0, 1) := by decide +kernel
theorem dX6_row_52 : decode cX6_row 52 = .ok (.iload_n 2, 1) := by decide +kernel
theorem dX6_row_53 : decode cX6_row 53 = .ok (.aload_n 3, 1) := by decide +kernel
theorem dX6_row_54 : decode cX6_row 54 = .ok (.iconst 0, 1) := by decide +kernel
theorem dX6_row_55 : decode cX6_row 55 = .ok (.aload 4, 2) := by decide +kernel
theorem dX6_row_57 : decode cX6_row 57 = .ok (.invokevirtual 169, 3) := by decide +kernel
theorem dX6_row_60 : decode cX6_row 60 = .ok (.pop, 1) := by decide +kernel
theorem dX6_row_61 : decode cX6_row 61 = .ok (.aload_n 3, 1) := by decide +kernel
theorem dX6_row_62 : decode cX6_row 62 = .ok (.areturn, 1) := by decide +kernel
theorem dX6_typeTold_0 : decode cX6_typeTold 0 = .ok (.aload_n 0, 1) := by decide +kernel
theorem dX6_typeTold_1 : decode cX6_typeTold 1 = .ok (.iload_n 1, 1) := by decide +kernel
theorem dX6_typeTold_2 : decode cX6_typeTold 2 = .ok (.invokevirtual 173, 3) := by decide +kernel
theorem dX6_typeTold_5 : decode cX6_typeTold 5 = .ok (.istore_n 3, 1) := by decide +kernel
theorem dX6_typeTold_6 : decode cX6_typeTold 6 = .ok (.iload_n 2, 1) := by decide +kernel
theorem dX6_typeTold_7 : decode cX6_typeTold 7 = .ok (.iconst 2, 1) := by decide +kernel
theorem dX6_typeTold_8 : decode cX6_typeTold 8 = .ok (.if_icmp .ge 19, 3) := by decide +kernel
theorem dX6_typeTold_11 : decode cX6_typeTold 11 = .ok (.iload_n 2, 1) := by decide +kernel
theorem dX6_typeTold_12 : decode cX6_typeTold 12 = .ok (.ifCond .ne 10, 3) := by decide +kernel
theorem dX6_typeTold_15 : decode cX6_typeTold 15 = .ok (.aload_n 0, 1) := by decide +kernel
theorem dX6_typeTold_16 : decode cX6_typeTold 16 = .ok (.getfield 99, 3) := by decide +kernel
theorem dX6_typeTold_19 : decode cX6_typeTold 19 = .ok (.goto 7, 3) := by decide +kernel
theorem dX6_typeTold_22 : decode cX6_typeTold 22 = .ok (.aload_n 0, 1) := by decide +kernel
theorem dX6_typeTold_23 : decode cX6_typeTold 23 = .ok (.getfield 102, 3) := by decide +kernel
theorem dX6_typeTold_26 : decode cX6_typeTold 26 = .ok (.ireturn, 1) := by decide +kernel
theorem dX6_typeTold_27 : decode cX6_typeTold 27 = .ok (.iload_n 3, 1) := by decide +kernel
theorem dX6_typeTold_28 : decode cX6_typeTold 28 = .ok (.iconst (-1), 1) := by decide +kernel
theorem dX6_typeTold_29 : decode cX6_typeTold 29 = .ok (.if_icmp .ne 5, 3) := by decide +kernel
theorem dX6_typeTold_32 : decode cX6_typeTold 32 = .ok (.iconst 0, 1) := by decide +kernel
theorem dX6_typeTold_33 : decode cX6_typeTold 33 = .ok (.ireturn, 1) := by decide +kernel
theorem dX6_typeTold_34 : decode cX6_typeTold 34 = .ok (.iload_n 2, 1) := by decide +kernel
theorem dX6_typeTold_35 : decode cX6_typeTold 35 = .ok (.iconst 3, 1) := by decide +kernel
theorem dX6_typeTold_36 : decode cX6_typeTold 36 = .ok (.if_icmp .eq 22, 3) := by decide +kernel
theorem dX6_typeTold_39 : decode cX6_typeTold 39 = .ok (.iload_n 2, 1) := by decide +kernel
theorem dX6_typeTold_40 : decode cX6_typeTold 40 = .ok (.iconst 2, 1) := by decide +kernel
theorem dX6_typeTold_41 : decode cX6_typeTold 41 = .ok (.if_icmp .ne 11, 3) := by decide +kernel
theorem dX6_typeTold_44 : decode cX6_typeTold 44 = .ok (.aload_n 0, 1) := by decide +kernel
theorem dX6_typeTold_45 : decode cX6_typeTold 45 = .ok (.iload_n 3, 1) := by decide +kernel
theorem dX6_typeTold_46 : decode cX6_typeTold 46 = .ok (.invokevirtual 111, 3) := by decide +kernel
theorem dX6_typeTold_49 : decode cX6_typeTold 49 = .ok (.goto 8, 3) := by decide +kernel
theorem dX6_typeTold_52 : decode cX6_typeTold 52 = .ok (.aload_n 0, 1) := by decide +kernel
theorem dX6_typeTold_53 : decode cX6_typeTold 53 = .ok (.iload_n 3, 1) := by decide +kernel
theorem dX6_typeTold_54 : decode cX6_typeTold 54 = .ok (.invokevirtual 176, 3) := by decide +kernel
theorem dX6_typeTold_57 : decode cX6_typeTold 57 = .ok (.ireturn, 1) := by decide +kernel
theorem dX6_typeTold_58 : decode cX6_typeTold 58 = .ok (.bipush 9, 2) := by decide +kernel
theorem dX6_typeTold_60 : decode cX6_typeTold 60 = .ok (.istore 4, 2) := by decide +kernel
theorem dX6_typeTold_62 : decode cX6_typeTold 62 = .ok (.aload_n 0, 1) := by decide +kernel
theorem dX6_typeTold_63 : decode cX6_typeTold 63 = .ok (.iload_n 1, 1) := by decide +kernel
theorem dX6_typeTold_64 : decode cX6_typeTold 64 = .ok (.invokevirtual 188, 3) := by decide +kernel
theorem dX6_typeTold_67 : decode cX6_typeTold 67 = .ok (.astore 5, 2) := by decide +kernel
theorem dX6_typeTold_69 : decode cX6_typeTold 69 = .ok (.aload 5, 2) := by decide +kernel
theorem dX6_typeTold_71 : decode cX6_typeTold 71 = .ok (.arraylength, 1) := by decide +kernel
theorem dX6_typeTold_72 : decode cX6_typeTold 72 = .ok (.istore 6, 2) := by decide +kernel
theorem dX6_typeTold_74 : decode cX6_typeTold 74 = .ok (.iconst 0, 1) := by decide +kernel
theorem dX6_typeTold_75 : decode cX6_typeTold 75 = .ok (.istore 7, 2) := by decide +kernel
theorem dX6_typeTold_77 : decode cX6_typeTold 77 = .ok (.iload 7, 2) := by decide +kernel
theorem dX6_typeTold_79 : decode cX6_typeTold 79 = .ok (.iload 6, 2) := by decide +kernel
theorem dX6_typeTold_81 : decode cX6_typeTold 81 = .ok (.if_icmp .ge 25, 3) := by decide +kernel
theorem dX6_typeTold_84 : decode cX6_typeTold 84 = .ok (.aload 5, 2) := by decide +kernel
theorem dX6_typeTold_86 : decode cX6_typeTold 86 = .ok (.iload 7, 2) := by decide +kernel
theorem dX6_typeTold_88 : decode cX6_typeTold 88 = .ok (.iaload, 1) := by decide +kernel
theorem dX6_typeTold_89 : decode cX6_typeTold 89 = .ok (.istore 8, 2) := by decide +kernel
theorem dX6_typeTold_91 : decode cX6_typeTold 91 = .ok (.iload 4, 2) := by decide +kernel
theorem dX6_typeTold_93 : decode cX6_typeTold 93 = .ok (.iload 8, 2) := by decide +kernel
theorem dX6_typeTold_95 : decode cX6_typeTold 95 = .ok (.invokestatic 179, 3) := by decide +kernel
theorem dX6_typeTold_98 : decode cX6_typeTold 98 = .ok (.istore 4, 2) := by decide +kernel
theorem dX6_typeTold_100 : decode cX6_typeTold 100 = .ok (.iinc 7 1, 3) := by decide +kernel
theorem dX6_typeTold_103 : decode cX6_typeTold 103 = .ok (.goto (-26), 3) := by decide +kernel
theorem dX6_typeTold_106 : decode cX6_typeTold 106 = .ok (.iload 4, 2) := by decide +kernel
theorem dX6_typeTold_108 : decode cX6_typeTold 108 = .ok (.bipush 10, 2) := by decide +kernel
theorem dX6_typeTold_110 : decode cX6_typeTold 110 = .ok (.isub, 1) := by decide +kernel
theorem dX6_typeTold_111 : decode cX6_typeTold 111 = .ok (.iconst 1, 1) := by decide +kernel
theorem dX6_typeTold_112 : decode cX6_typeTold 112 = .ok (.iadd, 1) := by decide +kernel
theorem dX6_typeTold_113 : decode cX6_typeTold 113 = .ok (.ireturn, 1) := by decide +kernel
theorem dX6_type_0 : decode cX6_type 0 = .ok (.aload_n 0, 1) := by decide +kernel
theorem dX6_type_1 : decode cX6_type 1 = .ok (.iconst 0, 1) := by decide +kernel
theorem dX6_type_2 : decode cX6_type 2 = .ok (.putfield 35, 3) := by decide +kernel
theorem dX6_type_5 : decode cX6_type 5 = .ok (.aload_n 0, 1) := by decide +kernel
theorem dX6_type_6 : decode cX6_type 6 = .ok (.iload_n 1, 1) := by decide +kernel
theorem dX6_type_7 : decode cX6_type 7 = .ok (.invokevirtual 75, 3) := by decide +kernel
theorem dX6_type_10 : decode cX6_type 10 = .ok (.ifCond .eq 21, 3) := by decide +kernel
theorem dX6_type_13 : decode cX6_type 13 = .ok (.iload_n 2, 1) := by decide +kernel
theorem dX6_type_14 : decode cX6_type 14 = .ok (.iconst 0, 1) := by decide +kernel
theorem dX6_type_15 : decode cX6_type 15 = .ok (.iconst 4, 1) := by decide +kernel
theorem dX6_type_16 : decode cX6_type 16 = .ok (.invokestatic 42, 3) := by decide +kernel
theorem dX6_type_19 : decode cX6_type 19 = .ok (.ifCond .eq 12, 3) := by decide +kernel
theorem dX6_type_22 : decode cX6_type 22 = .ok (.aload_n 0, 1) := by decide +kernel
theorem dX6_type_23 : decode cX6_type 23 = .ok (.iload_n 1, 1) := by decide +kernel
theorem dX6_type_24 : decode cX6_type 24 = .ok (.iload_n 2, 1) := by decide +kernel
theorem dX6_type_25 : decode cX6_type 25 = .ok (.invokevirtual 192, 3) := by decide +kernel
theorem dX6_type_28 : decode cX6_type 28 = .ok (.goto 8, 3) := by decide +kernel
theorem dX6_type_31 : decode cX6_type 31 = .ok (.aload_n 0, 1) := by decide +kernel
theorem dX6_type_32 : decode cX6_type 32 = .ok (.iconst 1, 1) := by decide +kernel
theorem dX6_type_33 : decode cX6_type 33 = .ok (.invokevirtual 60, 3) := by decide +kernel
theorem dX6_type_36 : decode cX6_type 36 = .ok (.ireturn, 1) := by decide +kernel
theorem dX6_code_0 : decode cX6_code 0 = .ok (.aload_n 0, 1) := by decide +kernel
theorem dX6_code_1 : decode cX6_code 1 = .ok (.iconst 0, 1) := by decide +kernel
theorem dX6_code_2 : decode cX6_code 2 = .ok (.putfield 35, 3) := by decide +kernel
theorem dX6_code_5 : decode cX6_code 5 = .ok (.aload_n 0, 1) := by decide +kernel
theorem dX6_code_6 : decode cX6_code 6 = .ok (.iload_n 1, 1) := by decide +kernel
theorem dX6_code_7 : decode cX6_code 7 = .ok (.invokevirtual 75, 3) := by decide +kernel
theorem dX6_code_10 : decode cX6_code 10 = .ok (.ifCond .ne 9, 3) := by decide +kernel
theorem dX6_code_13 : decode cX6_code 13 = .ok (.aload_n 0, 1) := by decide +kernel
theorem dX6_code_14 : decode cX6_code 14 = .ok (.iconst 1, 1) := by decide +kernel
theorem dX6_code_15 : decode cX6_code 15 = .ok (.invokevirtual 60, 3) := by decide +kernel
theorem dX6_code_18 : decode cX6_code 18 = .ok (.ireturn, 1) := by decide +kernel
theorem dX6_code_19 : decode cX6_code 19 = .ok (.aload_n 0, 1) := by decide +kernel
theorem dX6_code_20 : decode cX6_code 20 = .ok (.iload_n 1, 1) := by decide +kernel
theorem dX6_code_21 : decode cX6_code 21 = .ok (.invokevirtual 188, 3) := by decide +kernel
theorem dX6_code_24 : decode cX6_code 24 = .ok (.astore_n 3, 1) := by decide +kernel
theorem dX6_code_25 : decode cX6_code 25 = .ok (.iload_n 2, 1) := by decide +kernel
theorem dX6_code_26 : decode cX6_code 26 = .ok (.iconst 0, 1) := by decide +kernel
theorem dX6_code_27 : decode cX6_code 27 = .ok (.aload_n 3, 1) := by decide +kernel
theorem dX6_code_28 : decode cX6_code 28 = .ok (.arraylength, 1) := by decide +kernel
theorem dX6_code_29 : decode cX6_code 29 = .ok (.iconst 1, 1) := by decide +kernel
theorem dX6_code_30 : decode cX6_code 30 = .ok (.isub, 1) := by decide +kernel
theorem dX6_code_31 : decode cX6_code 31 = .ok (.invokestatic 42, 3) := by decide +kernel
theorem dX6_code_34 : decode cX6_code 34 = .ok (.ifCond .eq 9, 3) := by decide +kernel
theorem dX6_code_37 : decode cX6_code 37 = .ok (.aload_n 3, 1) := by decide +kernel
theorem dX6_code_38 : decode cX6_code 38 = .ok (.iload_n 2, 1) := by decide +kernel
theorem dX6_code_39 : decode cX6_code 39 = .ok (.iaload, 1) := by decide +kernel
theorem dX6_code_40 : decode cX6_code 40 = .ok (.goto 8, 3) := by decide +kernel
theorem dX6_code_43 : decode cX6_code 43 = .ok (.aload_n 0, 1) := by decide +kernel
theorem dX6_code_44 : decode cX6_code 44 = .ok (.iconst 1, 1) := by decide +kernel
theorem dX6_code_45 : decode cX6_code 45 = .ok (.invokevirtual 60, 3) := by decide +kernel
theorem dX6_code_48 : decode cX6_code 48 = .ok (.ireturn, 1) := by decide +kernel
theorem dX6_counted_0 : decode cX6_counted 0 = .ok (.iconst 0, 1) := by decide +kernel
theorem dX6_counted_1 : decode cX6_counted 1 = .ok (.istore_n 2, 1) := by decide +kernel
theorem dX6_counted_2 : decode cX6_counted 2 = .ok (.iconst 0, 1) := by decide +kernel
theorem dX6_counted_3 : decode cX6_counted 3 = .ok (.istore_n 3, 1) := by decide +kernel
theorem dX6_counted_4 : decode cX6_counted 4 = .ok (.iload_n 3, 1) := by decide +kernel
theorem dX6_counted_5 : decode cX6_counted 5 = .ok (.aload_n 0, 1) := by decide +kernel
theorem dX6_counted_6 : decode cX6_counted 6 = .ok (.getfield 39, 3) := by decide +kernel
theorem dX6_counted_9 : decode cX6_counted 9 = .ok (.if_icmp .ge 41, 3) := by decide +kernel
theorem dX6_counted_12 : decode cX6_counted 12 = .ok (.iload_n 1, 1) := by decide +kernel
theorem dX6_counted_13 : decode cX6_counted 13 = .ok (.ifCond .le 9, 3) := by decide +kernel
theorem dX6_counted_16 : decode cX6_counted 16 = .ok (.aload_n 0, 1) := by decide +kernel
theorem dX6_counted_17 : decode cX6_counted 17 = .ok (.iload_n 3, 1) := by decide +kernel
theorem dX6_counted_18 : decode cX6_counted 18 = .ok (.invokevirtual 173, 3) := by decide +kernel
theorem dX6_counted_21 : decode cX6_counted 21 = .ok (.pop, 1) := by decide +kernel
theorem dX6_counted_22 : decode cX6_counted 22 = .ok (.iload_n 2, 1) := by decide +kernel
theorem dX6_counted_23 : decode cX6_counted 23 = .ok (.iload_n 1, 1) := by decide +kernel
theorem dX6_counted_24 : decode cX6_counted 24 = .ok (.ifCond .eq 13, 3) := by decide +kernel
theorem dX6_counted_27 : decode cX6_counted 27 = .ok (.aload_n 0, 1) := by decide +kernel
theorem dX6_counted_28 : decode cX6_counted 28 = .ok (.getfield 99, 3) := by decide +kernel
theorem dX6_counted_31 : decode cX6_counted 31 = .ok (.iload_n 1, 1) := by decide +kernel
theorem dX6_counted_32 : decode cX6_counted 32 = .ok (.iconst 1, 1) := by decide +kernel
theorem dX6_counted_33 : decode cX6_counted 33 = .ok (.isub, 1) := by decide +kernel
theorem dX6_counted_34 : decode cX6_counted 34 = .ok (.if_icmp .ne 7, 3) := by decide +kernel
theorem dX6_counted_37 : decode cX6_counted 37 = .ok (.iconst 1, 1) := by decide +kernel
theorem dX6_counted_38 : decode cX6_counted 38 = .ok (.goto 4, 3) := by decide +kernel
theorem dX6_counted_41 : decode cX6_counted 41 = .ok (.iconst 0, 1) := by decide +kernel
theorem dX6_counted_42 : decode cX6_counted 42 = .ok (.iadd, 1) := by decide +kernel
theorem dX6_counted_43 : decode cX6_counted 43 = .ok (.istore_n 2, 1) := by decide +kernel
theorem dX6_counted_44 : decode cX6_counted 44 = .ok (.iinc 3 1, 3) := by decide +kernel
theorem dX6_counted_47 : decode cX6_counted 47 = .ok (.goto (-43), 3) := by decide +kernel
theorem dX6_counted_50 : decode cX6_counted 50 = .ok (.iload_n 2, 1) := by decide +kernel
theorem dX6_counted_51 : decode cX6_counted 51 = .ok (.ireturn, 1) := by decide +kernel
theorem dX6_count_0 : decode cX6_count 0 = .ok (.aload_n 0, 1) := by decide +kernel
theorem dX6_count_1 : decode cX6_count 1 = .ok (.iconst 0, 1) := by decide +kernel
theorem dX6_count_2 : decode cX6_count 2 = .ok (.putfield 35, 3) := by decide +kernel
theorem dX6_count_5 : decode cX6_count 5 = .ok (.iload_n 1, 1) := by decide +kernel
theorem dX6_count_6 : decode cX6_count 6 = .ok (.iconst 0, 1) := by decide +kernel
theorem dX6_count_7 : decode cX6_count 7 = .ok (.iconst 5, 1) := by decide +kernel
theorem dX6_count_8 : decode cX6_count 8 = .ok (.invokestatic 42, 3) := by decide +kernel
theorem dX6_count_11 : decode cX6_count 11 = .ok (.ifCond .eq 11, 3) := by decide +kernel
theorem dX6_count_14 : decode cX6_count 14 = .ok (.aload_n 0, 1) := by decide +kernel
theorem dX6_count_15 : decode cX6_count 15 = .ok (.iload_n 1, 1) := by decide +kernel
theorem dX6_count_16 : decode cX6_count 16 = .ok (.invokevirtual 195, 3) := by decide +kernel
theorem dX6_count_19 : decode cX6_count 19 = .ok (.goto 8, 3) := by decide +kernel
theorem dX6_count_22 : decode cX6_count 22 = .ok (.aload_n 0, 1) := by decide +kernel
theorem dX6_count_23 : decode cX6_count 23 = .ok (.iconst 1, 1) := by decide +kernel
theorem dX6_count_24 : decode cX6_count 24 = .ok (.invokevirtual 60, 3) := by decide +kernel
theorem dX6_count_27 : decode cX6_count 27 = .ok (.ireturn, 1) := by decide +kernel
theorem dX6_same_0 : decode cX6_same 0 = .ok (.aload_n 0, 1) := by decide +kernel
theorem dX6_same_1 : decode cX6_same 1 = .ok (.aload_n 0, 1) := by decide +kernel
theorem dX6_same_2 : decode cX6_same 2 = .ok (.iload_n 1, 1) := by decide +kernel
theorem dX6_same_3 : decode cX6_same 3 = .ok (.invokevirtual 75, 3) := by decide +kernel
theorem dX6_same_6 : decode cX6_same 6 = .ok (.ifCond .eq 15, 3) := by decide +kernel
theorem dX6_same_9 : decode cX6_same 9 = .ok (.aload_n 0, 1) := by decide +kernel
theorem dX6_same_10 : decode cX6_same 10 = .ok (.iload_n 2, 1) := by decide +kernel
theorem dX6_same_11 : decode cX6_same 11 = .ok (.invokevirtual 75, 3) := by decide +kernel
theorem dX6_same_14 : decode cX6_same 14 = .ok (.ifCond .eq 7, 3) := by decide +kernel
theorem dX6_same_17 : decode cX6_same 17 = .ok (.iconst 0, 1) := by decide +kernel
theorem dX6_same_18 : decode cX6_same 18 = .ok (.goto 4, 3) := by decide +kernel
theorem dX6_same_21 : decode cX6_same 21 = .ok (.iconst 1, 1) := by decide +kernel
theorem dX6_same_22 : decode cX6_same 22 = .ok (.putfield 35, 3) := by decide +kernel
theorem dX6_same_25 : decode cX6_same 25 = .ok (.aload_n 0, 1) := by decide +kernel
theorem dX6_same_26 : decode cX6_same 26 = .ok (.getfield 35, 3) := by decide +kernel
theorem dX6_same_29 : decode cX6_same 29 = .ok (.ifCond .eq 5, 3) := by decide +kernel
theorem dX6_same_32 : decode cX6_same 32 = .ok (.iconst 0, 1) := by decide +kernel
theorem dX6_same_33 : decode cX6_same 33 = .ok (.ireturn, 1) := by decide +kernel
theorem dX6_same_34 : decode cX6_same 34 = .ok (.aload_n 0, 1) := by decide +kernel
theorem dX6_same_35 : decode cX6_same 35 = .ok (.iload_n 1, 1) := by decide +kernel
theorem dX6_same_36 : decode cX6_same 36 = .ok (.invokevirtual 188, 3) := by decide +kernel
theorem dX6_same_39 : decode cX6_same 39 = .ok (.astore_n 3, 1) := by decide +kernel
theorem dX6_same_40 : decode cX6_same 40 = .ok (.aload_n 0, 1) := by decide +kernel
theorem dX6_same_41 : decode cX6_same 41 = .ok (.iload_n 2, 1) := by decide +kernel
theorem dX6_same_42 : decode cX6_same 42 = .ok (.invokevirtual 188, 3) := by decide +kernel
theorem dX6_same_45 : decode cX6_same 45 = .ok (.astore 4, 2) := by decide +kernel
theorem dX6_same_47 : decode cX6_same 47 = .ok (.aload_n 3, 1) := by decide +kernel
theorem dX6_same_48 : decode cX6_same 48 = .ok (.arraylength, 1) := by decide +kernel
theorem dX6_same_49 : decode cX6_same 49 = .ok (.ifCond .le 15, 3) := by decide +kernel
theorem dX6_same_52 : decode cX6_same 52 = .ok (.aload_n 3, 1) := by decide +kernel
theorem dX6_same_53 : decode cX6_same 53 = .ok (.arraylength, 1) := by decide +kernel
theorem dX6_same_54 : decode cX6_same 54 = .ok (.aload 4, 2) := by decide +kernel
theorem dX6_same_56 : decode cX6_same 56 = .ok (.arraylength, 1) := by decide +kernel
theorem dX6_same_57 : decode cX6_same 57 = .ok (.if_icmp .ne 7, 3) := by decide +kernel
theorem dX6_same_60 : decode cX6_same 60 = .ok (.iconst 1, 1) := by decide +kernel
theorem dX6_same_61 : decode cX6_same 61 = .ok (.goto 4, 3) := by decide +kernel
theorem dX6_same_64 : decode cX6_same 64 = .ok (.iconst 0, 1) := by decide +kernel
theorem dX6_same_65 : decode cX6_same 65 = .ok (.istore 5, 2) := by decide +kernel
theorem dX6_same_67 : decode cX6_same 67 = .ok (.iconst 0, 1) := by decide +kernel
theorem dX6_same_68 : decode cX6_same 68 = .ok (.istore 6, 2) := by decide +kernel
theorem dX6_same_70 : decode cX6_same 70 = .ok (.iload 5, 2) := by decide +kernel
theorem dX6_same_72 : decode cX6_same 72 = .ok (.ifCond .eq 35, 3) := by decide +kernel
theorem dX6_same_75 : decode cX6_same 75 = .ok (.iload 6, 2) := by decide +kernel
theorem dX6_same_77 : decode cX6_same 77 = .ok (.aload_n 3, 1) := by decide +kernel
theorem dX6_same_78 : decode cX6_same 78 = .ok (.arraylength, 1) := by decide +kernel
theorem dX6_same_79 : decode cX6_same 79 = .ok (.if_icmp .ge 28, 3) := by decide +kernel
theorem dX6_same_82 : decode cX6_same 82 = .ok (.aload_n 3, 1) := by decide +kernel
theorem dX6_same_83 : decode cX6_same 83 = .ok (.iload 6, 2) := by decide +kernel
theorem dX6_same_85 : decode cX6_same 85 = .ok (.iaload, 1) := by decide +kernel
theorem dX6_same_86 : decode cX6_same 86 = .ok (.aload 4, 2) := by decide +kernel
theorem dX6_same_88 : decode cX6_same 88 = .ok (.iload 6, 2) := by decide +kernel
theorem dX6_same_90 : decode cX6_same 90 = .ok (.iaload, 1) := by decide +kernel
theorem dX6_same_91 : decode cX6_same 91 = .ok (.if_icmp .ne 7, 3) := by decide +kernel
theorem dX6_same_94 : decode cX6_same 94 = .ok (.iconst 1, 1) := by decide +kernel
theorem dX6_same_95 : decode cX6_same 95 = .ok (.goto 4, 3) := by decide +kernel
theorem dX6_same_98 : decode cX6_same 98 = .ok (.iconst 0, 1) := by decide +kernel
theorem dX6_same_99 : decode cX6_same 99 = .ok (.istore 5, 2) := by decide +kernel
theorem dX6_same_101 : decode cX6_same 101 = .ok (.iinc 6 1, 3) := by decide +kernel
theorem dX6_same_104 : decode cX6_same 104 = .ok (.goto (-34), 3) := by decide +kernel
theorem dX6_same_107 : decode cX6_same 107 = .ok (.iload 5, 2) := by decide +kernel
theorem dX6_same_109 : decode cX6_same 109 = .ok (.ireturn, 1) := by decide +kernel
theorem dX6_fits_0 : decode cX6_fits 0 = .ok (.aload_n 0, 1) := by decide +kernel
theorem dX6_fits_1 : decode cX6_fits 1 = .ok (.aload_n 0, 1) := by decide +kernel
theorem dX6_fits_2 : decode cX6_fits 2 = .ok (.iload_n 1, 1) := by decide +kernel
theorem dX6_fits_3 : decode cX6_fits 3 = .ok (.invokevirtual 75, 3) := by decide +kernel
theorem dX6_fits_6 : decode cX6_fits 6 = .ok (.ifCond .eq 15, 3) := by decide +kernel
theorem dX6_fits_9 : decode cX6_fits 9 = .ok (.aload_n 0, 1) := by decide +kernel
theorem dX6_fits_10 : decode cX6_fits 10 = .ok (.iload_n 2, 1) := by decide +kernel
theorem dX6_fits_11 : decode cX6_fits 11 = .ok (.invokevirtual 75, 3) := by decide +kernel
theorem dX6_fits_14 : decode cX6_fits 14 = .ok (.ifCond .eq 7, 3) := by decide +kernel
theorem dX6_fits_17 : decode cX6_fits 17 = .ok (.iconst 0, 1) := by decide +kernel
theorem dX6_fits_18 : decode cX6_fits 18 = .ok (.goto 4, 3) := by decide +kernel
theorem dX6_fits_21 : decode cX6_fits 21 = .ok (.iconst 1, 1) := by decide +kernel
theorem dX6_fits_22 : decode cX6_fits 22 = .ok (.putfield 35, 3) := by decide +kernel
theorem dX6_fits_25 : decode cX6_fits 25 = .ok (.aload_n 0, 1) := by decide +kernel
theorem dX6_fits_26 : decode cX6_fits 26 = .ok (.getfield 35, 3) := by decide +kernel
theorem dX6_fits_29 : decode cX6_fits 29 = .ok (.ifCond .eq 5, 3) := by decide +kernel
theorem dX6_fits_32 : decode cX6_fits 32 = .ok (.iconst 0, 1) := by decide +kernel
theorem dX6_fits_33 : decode cX6_fits 33 = .ok (.ireturn, 1) := by decide +kernel
theorem dX6_fits_34 : decode cX6_fits 34 = .ok (.aload_n 0, 1) := by decide +kernel
theorem dX6_fits_35 : decode cX6_fits 35 = .ok (.iload_n 1, 1) := by decide +kernel
theorem dX6_fits_36 : decode cX6_fits 36 = .ok (.invokevirtual 188, 3) := by decide +kernel
theorem dX6_fits_39 : decode cX6_fits 39 = .ok (.astore_n 3, 1) := by decide +kernel
theorem dX6_fits_40 : decode cX6_fits 40 = .ok (.aload_n 0, 1) := by decide +kernel
theorem dX6_fits_41 : decode cX6_fits 41 = .ok (.iload_n 2, 1) := by decide +kernel
theorem dX6_fits_42 : decode cX6_fits 42 = .ok (.invokevirtual 188, 3) := by decide +kernel
theorem dX6_fits_45 : decode cX6_fits 45 = .ok (.astore 4, 2) := by decide +kernel
theorem dX6_fits_47 : decode cX6_fits 47 = .ok (.aload_n 3, 1) := by decide +kernel
theorem dX6_fits_48 : decode cX6_fits 48 = .ok (.arraylength, 1) := by decide +kernel
theorem dX6_fits_49 : decode cX6_fits 49 = .ok (.ifCond .eq 9, 3) := by decide +kernel
theorem dX6_fits_52 : decode cX6_fits 52 = .ok (.aload 4, 2) := by decide +kernel
theorem dX6_fits_54 : decode cX6_fits 54 = .ok (.arraylength, 1) := by decide +kernel
theorem dX6_fits_55 : decode cX6_fits 55 = .ok (.ifCond .ne 5, 3) := by decide +kernel
theorem dX6_fits_58 : decode cX6_fits 58 = .ok (.iconst 0, 1) := by decide +kernel
theorem dX6_fits_59 : decode cX6_fits 59 = .ok (.ireturn, 1) := by decide +kernel
theorem dX6_fits_60 : decode cX6_fits 60 = .ok (.bipush 71, 2) := by decide +kernel
theorem dX6_fits_62 : decode cX6_fits 62 = .ok (.newarray .int, 2) := by decide +kernel
theorem dX6_fits_64 : decode cX6_fits 64 = .ok (.astore 5, 2) := by decide +kernel
theorem dX6_fits_66 : decode cX6_fits 66 = .ok (.iconst 0, 1) := by decide +kernel
theorem dX6_fits_67 : decode cX6_fits 67 = .ok (.istore 6, 2) := by decide +kernel
theorem dX6_fits_69 : decode cX6_fits 69 = .ok (.iload 6, 2) := by decide +kernel
theorem dX6_fits_71 : decode cX6_fits 71 = .ok (.aload 5, 2) := by decide +kernel
theorem dX6_fits_73 : decode cX6_fits 73 = .ok (.arraylength, 1) := by decide +kernel
theorem dX6_fits_74 : decode cX6_fits 74 = .ok (.if_icmp .ge 15, 3) := by decide +kernel
theorem dX6_fits_77 : decode cX6_fits 77 = .ok (.aload 5, 2) := by decide +kernel
theorem dX6_fits_79 : decode cX6_fits 79 = .ok (.iload 6, 2) := by decide +kernel
theorem dX6_fits_81 : decode cX6_fits 81 = .ok (.iconst (-1), 1) := by decide +kernel
theorem dX6_fits_82 : decode cX6_fits 82 = .ok (.iastore, 1) := by decide +kernel
theorem dX6_fits_83 : decode cX6_fits 83 = .ok (.iinc 6 1, 3) := by decide +kernel
theorem dX6_fits_86 : decode cX6_fits 86 = .ok (.goto (-17), 3) := by decide +kernel
theorem dX6_fits_89 : decode cX6_fits 89 = .ok (.iconst 0, 1) := by decide +kernel
theorem dX6_fits_90 : decode cX6_fits 90 = .ok (.istore 6, 2) := by decide +kernel
theorem dX6_fits_92 : decode cX6_fits 92 = .ok (.aload_n 3, 1) := by decide +kernel
theorem dX6_fits_93 : decode cX6_fits 93 = .ok (.astore 7, 2) := by decide +kernel
theorem dX6_fits_95 : decode cX6_fits 95 = .ok (.aload 7, 2) := by decide +kernel
theorem dX6_fits_97 : decode cX6_fits 97 = .ok (.arraylength, 1) := by decide +kernel
theorem dX6_fits_98 : decode cX6_fits 98 = .ok (.istore 8, 2) := by decide +kernel
theorem dX6_fits_100 : decode cX6_fits 100 = .ok (.iconst 0, 1) := by decide +kernel
theorem dX6_fits_101 : decode cX6_fits 101 = .ok (.istore 9, 2) := by decide +kernel
theorem dX6_fits_103 : decode cX6_fits 103 = .ok (.iload 9, 2) := by decide +kernel
theorem dX6_fits_105 : decode cX6_fits 105 = .ok (.iload 8, 2) := by decide +kernel
theorem dX6_fits_107 : decode cX6_fits 107 = .ok (.if_icmp .ge 117, 3) := by decide +kernel
theorem dX6_fits_110 : decode cX6_fits 110 = .ok (.aload 7, 2) := by decide +kernel
theorem dX6_fits_112 : decode cX6_fits 112 = .ok (.iload 9, 2) := by decide +kernel
theorem dX6_fits_114 : decode cX6_fits 114 = .ok (.iaload, 1) := by decide +kernel
theorem dX6_fits_115 : decode cX6_fits 115 = .ok (.istore 10, 2) := by decide +kernel
theorem dX6_fits_117 : decode cX6_fits 117 = .ok (.aload 4, 2) := by decide +kernel
theorem dX6_fits_119 : decode cX6_fits 119 = .ok (.iload 6, 2) := by decide +kernel
theorem dX6_fits_121 : decode cX6_fits 121 = .ok (.invokestatic 198, 3) := by decide +kernel
theorem dX6_fits_124 : decode cX6_fits 124 = .ok (.istore 11, 2) := by decide +kernel
theorem dX6_fits_126 : decode cX6_fits 126 = .ok (.iload 10, 2) := by decide +kernel
theorem dX6_fits_128 : decode cX6_fits 128 = .ok (.bipush 10, 2) := by decide +kernel
theorem dX6_fits_130 : decode cX6_fits 130 = .ok (.if_icmp .ge 21, 3) := by decide +kernel
theorem dX6_fits_133 : decode cX6_fits 133 = .ok (.aload 4, 2) := by decide +kernel
theorem dX6_fits_135 : decode cX6_fits 135 = .ok (.iload 6, 2) := by decide +kernel
theorem dX6_fits_137 : decode cX6_fits 137 = .ok (.iaload, 1) := by decide +kernel
theorem dX6_fits_138 : decode cX6_fits 138 = .ok (.iload 10, 2) := by decide +kernel
theorem dX6_fits_140 : decode cX6_fits 140 = .ok (.if_icmp .eq 5, 3) := by decide +kernel
theorem dX6_fits_143 : decode cX6_fits 143 = .ok (.iconst 0, 1) := by decide +kernel
theorem dX6_fits_144 : decode cX6_fits 144 = .ok (.ireturn, 1) := by decide +kernel
theorem dX6_fits_145 : decode cX6_fits 145 = .ok (.iinc 6 1, 3) := by decide +kernel
theorem dX6_fits_148 : decode cX6_fits 148 = .ok (.goto 70, 3) := by decide +kernel
theorem dX6_fits_151 : decode cX6_fits 151 = .ok (.aload 5, 2) := by decide +kernel
theorem dX6_fits_153 : decode cX6_fits 153 = .ok (.iload 10, 2) := by decide +kernel
theorem dX6_fits_155 : decode cX6_fits 155 = .ok (.iaload, 1) := by decide +kernel
theorem dX6_fits_156 : decode cX6_fits 156 = .ok (.iconst (-1), 1) := by decide +kernel
theorem dX6_fits_157 : decode cX6_fits 157 = .ok (.if_icmp .ne 10, 3) := by decide +kernel
theorem dX6_fits_160 : decode cX6_fits 160 = .ok (.aload 5, 2) := by decide +kernel
theorem dX6_fits_162 : decode cX6_fits 162 = .ok (.iload 10, 2) := by decide +kernel
theorem dX6_fits_164 : decode cX6_fits 164 = .ok (.iload 6, 2) := by decide +kernel
theorem dX6_fits_166 : decode cX6_fits 166 = .ok (.iastore, 1) := by decide +kernel
theorem dX6_fits_167 : decode cX6_fits 167 = .ok (.aload 5, 2) := by decide +kernel
theorem dX6_fits_169 : decode cX6_fits 169 = .ok (.iload 10, 2) := by decide +kernel
theorem dX6_fits_171 : decode cX6_fits 171 = .ok (.iaload, 1) := by decide +kernel
theorem dX6_fits_172 : decode cX6_fits 172 = .ok (.istore 12, 2) := by decide +kernel
theorem dX6_fits_174 : decode cX6_fits 174 = .ok (.iconst 0, 1) := by decide +kernel
theorem dX6_fits_175 : decode cX6_fits 175 = .ok (.istore 13, 2) := by decide +kernel
theorem dX6_fits_177 : decode cX6_fits 177 = .ok (.iload 13, 2) := by decide +kernel
theorem dX6_fits_179 : decode cX6_fits 179 = .ok (.iload 11, 2) := by decide +kernel
theorem dX6_fits_181 : decode cX6_fits 181 = .ok (.iload 6, 2) := by decide +kernel
theorem dX6_fits_183 : decode cX6_fits 183 = .ok (.isub, 1) := by decide +kernel
theorem dX6_fits_184 : decode cX6_fits 184 = .ok (.if_icmp .ge 30, 3) := by decide +kernel
theorem dX6_fits_187 : decode cX6_fits 187 = .ok (.aload 4, 2) := by decide +kernel
theorem dX6_fits_189 : decode cX6_fits 189 = .ok (.iload 12, 2) := by decide +kernel
theorem dX6_fits_191 : decode cX6_fits 191 = .ok (.iload 13, 2) := by decide +kernel
theorem dX6_fits_193 : decode cX6_fits 193 = .ok (.iadd, 1) := by decide +kernel
theorem dX6_fits_194 : decode cX6_fits 194 = .ok (.iaload, 1) := by decide +kernel
theorem dX6_fits_195 : decode cX6_fits 195 = .ok (.aload 4, 2) := by decide +kernel
theorem dX6_fits_197 : decode cX6_fits 197 = .ok (.iload 6, 2) := by decide +kernel
theorem dX6_fits_199 : decode cX6_fits 199 = .ok (.iload 13, 2) := by decide +kernel
theorem dX6_fits_201 : decode cX6_fits 201 = .ok (.iadd, 1) := by decide +kernel
theorem dX6_fits_202 : decode cX6_fits 202 = .ok (.iaload, 1) := by decide +kernel
theorem dX6_fits_203 : decode cX6_fits 203 = .ok (.if_icmp .eq 5, 3) := by decide +kernel
theorem dX6_fits_206 : decode cX6_fits 206 = .ok (.iconst 0, 1) := by decide +kernel
theorem dX6_fits_207 : decode cX6_fits 207 = .ok (.ireturn, 1) := by decide +kernel
theorem dX6_fits_208 : decode cX6_fits 208 = .ok (.iinc 13 1, 3) := by decide +kernel
theorem dX6_fits_211 : decode cX6_fits 211 = .ok (.goto (-34), 3) := by decide +kernel
theorem dX6_fits_214 : decode cX6_fits 214 = .ok (.iload 11, 2) := by decide +kernel
theorem dX6_fits_216 : decode cX6_fits 216 = .ok (.istore 6, 2) := by decide +kernel
theorem dX6_fits_218 : decode cX6_fits 218 = .ok (.iinc 9 1, 3) := by decide +kernel
theorem dX6_fits_221 : decode cX6_fits 221 = .ok (.goto (-118), 3) := by decide +kernel
theorem dX6_fits_224 : decode cX6_fits 224 = .ok (.iconst 1, 1) := by decide +kernel
theorem dX6_fits_225 : decode cX6_fits 225 = .ok (.ireturn, 1) := by decide +kernel
theorem dX6_turned_0 : decode cX6_turned 0 = .ok (.aload_n 0, 1) := by decide +kernel
theorem dX6_turned_1 : decode cX6_turned 1 = .ok (.iconst 4, 1) := by decide +kernel
theorem dX6_turned_2 : decode cX6_turned 2 = .ok (.iload_n 1, 1) := by decide +kernel
theorem dX6_turned_3 : decode cX6_turned 3 = .ok (.iload_n 2, 1) := by decide +kernel
theorem dX6_turned_4 : decode cX6_turned 4 = .ok (.iconst (-1), 1) := by decide +kernel
theorem dX6_turned_5 : decode cX6_turned 5 = .ok (.iconst (-1), 1) := by decide +kernel
theorem dX6_turned_6 : decode cX6_turned 6 = .ok (.invokevirtual 63, 3) := by decide +kernel
theorem dX6_turned_9 : decode cX6_turned 9 = .ok (.aload_n 0, 1) := by decide +kernel
theorem dX6_turned_10 : decode cX6_turned 10 = .ok (.aload_n 0, 1) := by decide +kernel
theorem dX6_turned_11 : decode cX6_turned 11 = .ok (.getfield 39, 3) := by decide +kernel
theorem dX6_turned_14 : decode cX6_turned 14 = .ok (.invokevirtual 173, 3) := by decide +kernel
theorem dX6_turned_17 : decode cX6_turned 17 = .ok (.pop, 1) := by decide +kernel
theorem dX6_turned_18 : decode cX6_turned 18 = .ok (.aload_n 0, 1) := by decide +kernel
theorem dX6_turned_19 : decode cX6_turned 19 = .ok (.getfield 99, 3) := by decide +kernel
theorem dX6_turned_22 : decode cX6_turned 22 = .ok (.ireturn, 1) := by decide +kernel
theorem dX6_goes_0 : decode cX6_goes 0 = .ok (.aload_n 0, 1) := by decide +kernel
theorem dX6_goes_1 : decode cX6_goes 1 = .ok (.iconst 0, 1) := by decide +kernel
theorem dX6_goes_2 : decode cX6_goes 2 = .ok (.putfield 35, 3) := by decide +kernel
theorem dX6_goes_5 : decode cX6_goes 5 = .ok (.aload_n 0, 1) := by decide +kernel
theorem dX6_goes_6 : decode cX6_goes 6 = .ok (.iload_n 1, 1) := by decide +kernel
theorem dX6_goes_7 : decode cX6_goes 7 = .ok (.invokevirtual 75, 3) := by decide +kernel
theorem dX6_goes_10 : decode cX6_goes 10 = .ok (.ifCond .eq 20, 3) := by decide +kernel
theorem dX6_goes_13 : decode cX6_goes 13 = .ok (.aload_n 0, 1) := by decide +kernel
theorem dX6_goes_14 : decode cX6_goes 14 = .ok (.iload_n 2, 1) := by decide +kernel
theorem dX6_goes_15 : decode cX6_goes 15 = .ok (.invokevirtual 75, 3) := by decide +kernel
theorem dX6_goes_18 : decode cX6_goes 18 = .ok (.ifCond .eq 12, 3) := by decide +kernel
theorem dX6_goes_21 : decode cX6_goes 21 = .ok (.aload_n 0, 1) := by decide +kernel
theorem dX6_goes_22 : decode cX6_goes 22 = .ok (.iload_n 1, 1) := by decide +kernel
theorem dX6_goes_23 : decode cX6_goes 23 = .ok (.iload_n 2, 1) := by decide +kernel
theorem dX6_goes_24 : decode cX6_goes 24 = .ok (.invokevirtual 202, 3) := by decide +kernel
theorem dX6_goes_27 : decode cX6_goes 27 = .ok (.goto 8, 3) := by decide +kernel
theorem dX6_goes_30 : decode cX6_goes 30 = .ok (.aload_n 0, 1) := by decide +kernel
theorem dX6_goes_31 : decode cX6_goes 31 = .ok (.iconst 1, 1) := by decide +kernel
theorem dX6_goes_32 : decode cX6_goes 32 = .ok (.invokevirtual 60, 3) := by decide +kernel
theorem dX6_goes_35 : decode cX6_goes 35 = .ok (.ireturn, 1) := by decide +kernel
theorem dX6_first_0 : decode cX6_first 0 = .ok (.aload_n 0, 1) := by decide +kernel
theorem dX6_first_1 : decode cX6_first 1 = .ok (.iconst 0, 1) := by decide +kernel
theorem dX6_first_2 : decode cX6_first 2 = .ok (.putfield 35, 3) := by decide +kernel
theorem dX6_first_5 : decode cX6_first 5 = .ok (.aload_n 0, 1) := by decide +kernel
theorem dX6_first_6 : decode cX6_first 6 = .ok (.iload_n 1, 1) := by decide +kernel
theorem dX6_first_7 : decode cX6_first 7 = .ok (.invokevirtual 75, 3) := by decide +kernel
theorem dX6_first_10 : decode cX6_first 10 = .ok (.ifCond .ne 9, 3) := by decide +kernel
theorem dX6_first_13 : decode cX6_first 13 = .ok (.aload_n 0, 1) := by decide +kernel
theorem dX6_first_14 : decode cX6_first 14 = .ok (.iconst 1, 1) := by decide +kernel
theorem dX6_first_15 : decode cX6_first 15 = .ok (.invokevirtual 60, 3) := by decide +kernel
theorem dX6_first_18 : decode cX6_first 18 = .ok (.ireturn, 1) := by decide +kernel
theorem dX6_first_19 : decode cX6_first 19 = .ok (.iconst 0, 1) := by decide +kernel
theorem dX6_first_20 : decode cX6_first 20 = .ok (.istore_n 2, 1) := by decide +kernel
theorem dX6_first_21 : decode cX6_first 21 = .ok (.iload_n 2, 1) := by decide +kernel
theorem dX6_first_22 : decode cX6_first 22 = .ok (.aload_n 0, 1) := by decide +kernel
theorem dX6_first_23 : decode cX6_first 23 = .ok (.getfield 39, 3) := by decide +kernel
theorem dX6_first_26 : decode cX6_first 26 = .ok (.if_icmp .ge 20, 3) := by decide +kernel
theorem dX6_first_29 : decode cX6_first 29 = .ok (.aload_n 0, 1) := by decide +kernel
theorem dX6_first_30 : decode cX6_first 30 = .ok (.iload_n 1, 1) := by decide +kernel
theorem dX6_first_31 : decode cX6_first 31 = .ok (.iload_n 2, 1) := by decide +kernel
theorem dX6_first_32 : decode cX6_first 32 = .ok (.invokevirtual 202, 3) := by decide +kernel
theorem dX6_first_35 : decode cX6_first 35 = .ok (.ifCond .ne 5, 3) := by decide +kernel
theorem dX6_first_38 : decode cX6_first 38 = .ok (.iload_n 2, 1) := by decide +kernel
theorem dX6_first_39 : decode cX6_first 39 = .ok (.ireturn, 1) := by decide +kernel
theorem dX6_first_40 : decode cX6_first 40 = .ok (.iinc 2 1, 3) := by decide +kernel
theorem dX6_first_43 : decode cX6_first 43 = .ok (.goto (-22), 3) := by decide +kernel
theorem dX6_first_46 : decode cX6_first 46 = .ok (.iconst (-1), 1) := by decide +kernel
theorem dX6_first_47 : decode cX6_first 47 = .ok (.ireturn, 1) := by decide +kernel
theorem dX6_length_0 : decode cX6_length 0 = .ok (.aload_n 0, 1) := by decide +kernel
theorem dX6_length_1 : decode cX6_length 1 = .ok (.iload_n 1, 1) := by decide +kernel
theorem dX6_length_2 : decode cX6_length 2 = .ok (.invokevirtual 173, 3) := by decide +kernel
theorem dX6_length_5 : decode cX6_length 5 = .ok (.istore_n 2, 1) := by decide +kernel
theorem dX6_length_6 : decode cX6_length 6 = .ok (.iload_n 2, 1) := by decide +kernel
theorem dX6_length_7 : decode cX6_length 7 = .ok (.iconst (-1), 1) := by decide +kernel
theorem dX6_length_8 : decode cX6_length 8 = .ok (.if_icmp .ne 7, 3) := by decide +kernel
theorem dX6_length_11 : decode cX6_length 11 = .ok (.iconst 0, 1) := by decide +kernel
theorem dX6_length_12 : decode cX6_length 12 = .ok (.goto 8, 3) := by decide +kernel
theorem dX6_length_15 : decode cX6_length 15 = .ok (.aload_n 0, 1) := by decide +kernel
theorem dX6_length_16 : decode cX6_length 16 = .ok (.iload_n 2, 1) := by decide +kernel
theorem dX6_length_17 : decode cX6_length 17 = .ok (.invokevirtual 111, 3) := by decide +kernel
theorem dX6_length_20 : decode cX6_length 20 = .ok (.ireturn, 1) := by decide +kernel
theorem dX6_longest_0 : decode cX6_longest 0 = .ok (.aload_n 0, 1) := by decide +kernel
theorem dX6_longest_1 : decode cX6_longest 1 = .ok (.iconst 0, 1) := by decide +kernel
theorem dX6_longest_2 : decode cX6_longest 2 = .ok (.putfield 35, 3) := by decide +kernel
theorem dX6_longest_5 : decode cX6_longest 5 = .ok (.iconst (-1), 1) := by decide +kernel
theorem dX6_longest_6 : decode cX6_longest 6 = .ok (.istore_n 1, 1) := by decide +kernel
theorem dX6_longest_7 : decode cX6_longest 7 = .ok (.iconst 0, 1) := by decide +kernel
theorem dX6_longest_8 : decode cX6_longest 8 = .ok (.istore_n 2, 1) := by decide +kernel
theorem dX6_longest_9 : decode cX6_longest 9 = .ok (.iconst 0, 1) := by decide +kernel
theorem dX6_longest_10 : decode cX6_longest 10 = .ok (.istore_n 3, 1) := by decide +kernel
theorem dX6_longest_11 : decode cX6_longest 11 = .ok (.iload_n 3, 1) := by decide +kernel
theorem dX6_longest_12 : decode cX6_longest 12 = .ok (.aload_n 0, 1) := by decide +kernel
theorem dX6_longest_13 : decode cX6_longest 13 = .ok (.getfield 39, 3) := by decide +kernel
theorem dX6_longest_16 : decode cX6_longest 16 = .ok (.if_icmp .ge 30, 3) := by decide +kernel
theorem dX6_longest_19 : decode cX6_longest 19 = .ok (.aload_n 0, 1) := by decide +kernel
theorem dX6_longest_20 : decode cX6_longest 20 = .ok (.iload_n 3, 1) := by decide +kernel
theorem dX6_longest_21 : decode cX6_longest 21 = .ok (.invokevirtual 205, 3) := by decide +kernel
theorem dX6_longest_24 : decode cX6_longest 24 = .ok (.istore 4, 2) := by decide +kernel
theorem dX6_longest_26 : decode cX6_longest 26 = .ok (.iload 4, 2) := by decide +kernel
theorem dX6_longest_28 : decode cX6_longest 28 = .ok (.iload_n 2, 1) := by decide +kernel
theorem dX6_longest_29 : decode cX6_longest 29 = .ok (.if_icmp .gt 6, 3) := by decide +kernel
theorem dX6_longest_32 : decode cX6_longest 32 = .ok (.goto 8, 3) := by decide +kernel
theorem dX6_longest_35 : decode cX6_longest 35 = .ok (.iload_n 3, 1) := by decide +kernel
theorem dX6_longest_36 : decode cX6_longest 36 = .ok (.istore_n 1, 1) := by decide +kernel
theorem dX6_longest_37 : decode cX6_longest 37 = .ok (.iload 4, 2) := by decide +kernel
theorem dX6_longest_39 : decode cX6_longest 39 = .ok (.istore_n 2, 1) := by decide +kernel
theorem dX6_longest_40 : decode cX6_longest 40 = .ok (.iinc 3 1, 3) := by decide +kernel
theorem dX6_longest_43 : decode cX6_longest 43 = .ok (.goto (-32), 3) := by decide +kernel
theorem dX6_longest_46 : decode cX6_longest 46 = .ok (.iload_n 1, 1) := by decide +kernel
theorem dX6_longest_47 : decode cX6_longest 47 = .ok (.ireturn, 1) := by decide +kernel
theorem dX6_digest_0 : decode cX6_digest 0 = .ok (.aload_n 0, 1) := by decide +kernel
theorem dX6_digest_1 : decode cX6_digest 1 = .ok (.iconst 0, 1) := by decide +kernel
theorem dX6_digest_2 : decode cX6_digest 2 = .ok (.putfield 35, 3) := by decide +kernel
theorem dX6_digest_5 : decode cX6_digest 5 = .ok (.ldc2_w 208, 3) := by decide +kernel
theorem dX6_digest_8 : decode cX6_digest 8 = .ok (.lstore_n 1, 1) := by decide +kernel
theorem dX6_digest_9 : decode cX6_digest 9 = .ok (.iconst 0, 1) := by decide +kernel
theorem dX6_digest_10 : decode cX6_digest 10 = .ok (.istore_n 3, 1) := by decide +kernel
theorem dX6_digest_11 : decode cX6_digest 11 = .ok (.iload_n 3, 1) := by decide +kernel
theorem dX6_digest_12 : decode cX6_digest 12 = .ok (.bipush 6, 2) := by decide +kernel
theorem dX6_digest_14 : decode cX6_digest 14 = .ok (.if_icmp .ge 22, 3) := by decide +kernel
theorem dX6_digest_17 : decode cX6_digest 17 = .ok (.lload_n 1, 1) := by decide +kernel
theorem dX6_digest_18 : decode cX6_digest 18 = .ok (.ldc2_w 210, 3) := by decide +kernel
theorem dX6_digest_21 : decode cX6_digest 21 = .ok (.lmul, 1) := by decide +kernel
theorem dX6_digest_22 : decode cX6_digest 22 = .ok (.aload_n 0, 1) := by decide +kernel
theorem dX6_digest_23 : decode cX6_digest 23 = .ok (.iload_n 3, 1) := by decide +kernel
theorem dX6_digest_24 : decode cX6_digest 24 = .ok (.invokevirtual 195, 3) := by decide +kernel
theorem dX6_digest_27 : decode cX6_digest 27 = .ok (.i2l, 1) := by decide +kernel
theorem dX6_digest_28 : decode cX6_digest 28 = .ok (.ladd, 1) := by decide +kernel
theorem dX6_digest_29 : decode cX6_digest 29 = .ok (.lstore_n 1, 1) := by decide +kernel
theorem dX6_digest_30 : decode cX6_digest 30 = .ok (.iinc 3 1, 3) := by decide +kernel
theorem dX6_digest_33 : decode cX6_digest 33 = .ok (.goto (-22), 3) := by decide +kernel
theorem dX6_digest_36 : decode cX6_digest 36 = .ok (.iconst 0, 1) := by decide +kernel
theorem dX6_digest_37 : decode cX6_digest 37 = .ok (.istore_n 3, 1) := by decide +kernel
theorem dX6_digest_38 : decode cX6_digest 38 = .ok (.iload_n 3, 1) := by decide +kernel
theorem dX6_digest_39 : decode cX6_digest 39 = .ok (.aload_n 0, 1) := by decide +kernel
theorem dX6_digest_40 : decode cX6_digest 40 = .ok (.getfield 39, 3) := by decide +kernel
theorem dX6_digest_43 : decode cX6_digest 43 = .ok (.if_icmp .ge 115, 3) := by decide +kernel
theorem dX6_digest_46 : decode cX6_digest 46 = .ok (.iconst 0, 1) := by decide +kernel
theorem dX6_digest_47 : decode cX6_digest 47 = .ok (.istore 4, 2) := by decide +kernel
theorem dX6_digest_49 : decode cX6_digest 49 = .ok (.iload 4, 2) := by decide +kernel
theorem dX6_digest_51 : decode cX6_digest 51 = .ok (.bipush 7, 2) := by decide +kernel
theorem dX6_digest_53 : decode cX6_digest 53 = .ok (.if_icmp .ge 24, 3) := by decide +kernel
theorem dX6_digest_56 : decode cX6_digest 56 = .ok (.lload_n 1, 1) := by decide +kernel
theorem dX6_digest_57 : decode cX6_digest 57 = .ok (.ldc2_w 210, 3) := by decide +kernel
theorem dX6_digest_60 : decode cX6_digest 60 = .ok (.lmul, 1) := by decide +kernel
theorem dX6_digest_61 : decode cX6_digest 61 = .ok (.aload_n 0, 1) := by decide +kernel
theorem dX6_digest_62 : decode cX6_digest 62 = .ok (.iload_n 3, 1) := by decide +kernel
theorem dX6_digest_63 : decode cX6_digest 63 = .ok (.iload 4, 2) := by decide +kernel
theorem dX6_digest_65 : decode cX6_digest 65 = .ok (.invokevirtual 185, 3) := by decide +kernel
theorem dX6_digest_68 : decode cX6_digest 68 = .ok (.i2l, 1) := by decide +kernel
theorem dX6_digest_69 : decode cX6_digest 69 = .ok (.ladd, 1) := by decide +kernel
theorem dX6_digest_70 : decode cX6_digest 70 = .ok (.lstore_n 1, 1) := by decide +kernel
theorem dX6_digest_71 : decode cX6_digest 71 = .ok (.iinc 4 1, 3) := by decide +kernel
theorem dX6_digest_74 : decode cX6_digest 74 = .ok (.goto (-25), 3) := by decide +kernel
theorem dX6_digest_77 : decode cX6_digest 77 = .ok (.iconst 0, 1) := by decide +kernel
theorem dX6_digest_78 : decode cX6_digest 78 = .ok (.istore 4, 2) := by decide +kernel
theorem dX6_digest_80 : decode cX6_digest 80 = .ok (.iload 4, 2) := by decide +kernel
theorem dX6_digest_82 : decode cX6_digest 82 = .ok (.iconst 5, 1) := by decide +kernel
theorem dX6_digest_83 : decode cX6_digest 83 = .ok (.if_icmp .ge 24, 3) := by decide +kernel
theorem dX6_digest_86 : decode cX6_digest 86 = .ok (.lload_n 1, 1) := by decide +kernel
theorem dX6_digest_87 : decode cX6_digest 87 = .ok (.ldc2_w 210, 3) := by decide +kernel
theorem dX6_digest_90 : decode cX6_digest 90 = .ok (.lmul, 1) := by decide +kernel
theorem dX6_digest_91 : decode cX6_digest 91 = .ok (.aload_n 0, 1) := by decide +kernel
theorem dX6_digest_92 : decode cX6_digest 92 = .ok (.iload_n 3, 1) := by decide +kernel
theorem dX6_digest_93 : decode cX6_digest 93 = .ok (.iload 4, 2) := by decide +kernel
theorem dX6_digest_95 : decode cX6_digest 95 = .ok (.invokevirtual 192, 3) := by decide +kernel
theorem dX6_digest_98 : decode cX6_digest 98 = .ok (.i2l, 1) := by decide +kernel
theorem dX6_digest_99 : decode cX6_digest 99 = .ok (.ladd, 1) := by decide +kernel
theorem dX6_digest_100 : decode cX6_digest 100 = .ok (.lstore_n 1, 1) := by decide +kernel
theorem dX6_digest_101 : decode cX6_digest 101 = .ok (.iinc 4 1, 3) := by decide +kernel
theorem dX6_digest_104 : decode cX6_digest 104 = .ok (.goto (-24), 3) := by decide +kernel
theorem dX6_digest_107 : decode cX6_digest 107 = .ok (.aload_n 0, 1) := by decide +kernel
theorem dX6_digest_108 : decode cX6_digest 108 = .ok (.iload_n 3, 1) := by decide +kernel
theorem dX6_digest_109 : decode cX6_digest 109 = .ok (.invokevirtual 188, 3) := by decide +kernel
theorem dX6_digest_112 : decode cX6_digest 112 = .ok (.astore 4, 2) := by decide +kernel
theorem dX6_digest_114 : decode cX6_digest 114 = .ok (.aload 4, 2) := by decide +kernel
theorem dX6_digest_116 : decode cX6_digest 116 = .ok (.arraylength, 1) := by decide +kernel
theorem dX6_digest_117 : decode cX6_digest 117 = .ok (.istore 5, 2) := by decide +kernel
theorem dX6_digest_119 : decode cX6_digest 119 = .ok (.iconst 0, 1) := by decide +kernel
theorem dX6_digest_120 : decode cX6_digest 120 = .ok (.istore 6, 2) := by decide +kernel
theorem dX6_digest_122 : decode cX6_digest 122 = .ok (.iload 6, 2) := by decide +kernel
theorem dX6_digest_124 : decode cX6_digest 124 = .ok (.iload 5, 2) := by decide +kernel
theorem dX6_digest_126 : decode cX6_digest 126 = .ok (.if_icmp .ge 26, 3) := by decide +kernel
theorem dX6_digest_129 : decode cX6_digest 129 = .ok (.aload 4, 2) := by decide +kernel
theorem dX6_digest_131 : decode cX6_digest 131 = .ok (.iload 6, 2) := by decide +kernel
theorem dX6_digest_133 : decode cX6_digest 133 = .ok (.iaload, 1) := by decide +kernel
theorem dX6_digest_134 : decode cX6_digest 134 = .ok (.istore 7, 2) := by decide +kernel
theorem dX6_digest_136 : decode cX6_digest 136 = .ok (.lload_n 1, 1) := by decide +kernel
theorem dX6_digest_137 : decode cX6_digest 137 = .ok (.ldc2_w 210, 3) := by decide +kernel
theorem dX6_digest_140 : decode cX6_digest 140 = .ok (.lmul, 1) := by decide +kernel
theorem dX6_digest_141 : decode cX6_digest 141 = .ok (.iload 7, 2) := by decide +kernel
theorem dX6_digest_143 : decode cX6_digest 143 = .ok (.i2l, 1) := by decide +kernel
theorem dX6_digest_144 : decode cX6_digest 144 = .ok (.ladd, 1) := by decide +kernel
theorem dX6_digest_145 : decode cX6_digest 145 = .ok (.lstore_n 1, 1) := by decide +kernel
theorem dX6_digest_146 : decode cX6_digest 146 = .ok (.iinc 6 1, 3) := by decide +kernel
theorem dX6_digest_149 : decode cX6_digest 149 = .ok (.goto (-27), 3) := by decide +kernel
theorem dX6_digest_152 : decode cX6_digest 152 = .ok (.iinc 3 1, 3) := by decide +kernel
theorem dX6_digest_155 : decode cX6_digest 155 = .ok (.goto (-117), 3) := by decide +kernel
theorem dX6_digest_158 : decode cX6_digest 158 = .ok (.lload_n 1, 1) := by decide +kernel
theorem dX6_digest_159 : decode cX6_digest 159 = .ok (.lreturn, 1) := by decide +kernel
section M5
variable {p : Program} {l : Launch} {e : Env} {R : Room} {s : State} {m : MethodId} {args : Array Value} {below : List Frame} {meth : Method} {c : Code} {D : va_G} {g : gT} {N : Nat} {ad ln ad0 ln0 : Nat → Nat}
def mX6_row_b32 (N cp k n : Nat) (K32 : Nat → Nat → Nat → gM → Int32 → Nat → Nat → Int32 → Option (gM × (Nat × Nat × Nat) × Nat)) (A : gM) (x2 : Int32) (wx3 : Nat) (wx4 : Nat) (x5 : Int32) : Option (gM × (Nat × Nat × Nat) × Nat) :=
  if 60 < x5 then
  (mX6_write cp 62 A x2 N wx3 0 (N + 1) wx4).bind fun q2 =>
  some (q2.1, (cp, k, n), wx3)
  else
  if g_in x5 wx4 = true then g_let (g_up A (N + 1) x5.toNatClampNeg (-1)) fun A4 =>
  g_let (x5 + 1) fun v5 =>
  K32 cp k n A4 x2 wx3 wx4 v5
  else none
def mX6_row_L32 (N : Nat) : Nat → Nat → Nat → Nat → gM → Int32 → Nat → Nat → Int32 → Option (gM × (Nat × Nat × Nat) × Nat)
  | 0 => fun _ _ _ _ _ _ _ _ => none
  | f + 1 => fun cp k n => mX6_row_b32 N cp k n (mX6_row_L32 N f)
def mX6_row_b27 (N cp k n : Nat) (A : gM) (x2 : Int32) (wx3 : Nat) (ws0 : Nat) : Option (gM × (Nat × Nat × Nat) × Nat) :=
  mX6_row_L32 N gF cp k n A x2 wx3 ws0 0
def mX6_row_b22 (N cp k n : Nat) (A : gM) (x2 : Int32) (ws0 : Nat) : Option (gM × (Nat × Nat × Nat) × Nat) :=
  if ¬ 61 < (0 : Int32) ∧ (61 : Int32).toNatClampNeg ≤ 100000 then
  mX6_row_b27 N cp (k + 1) (n + (61 : Int32).toNatClampNeg) (g_row A (N + 1) (fun _ => 0)) x2 ws0 ((61 : Int32).toNatClampNeg)
  else none
def mX6_row_b14 (N cp k n : Nat) (A : gM) (ws0 : Nat) : Option (gM × (Nat × Nat × Nat) × Nat) :=
  some (A, (cp, k, n), ws0)
def mX6_row_b5 (N cp k n : Nat) (A : gM) (s0 : Int32) : Option (gM × (Nat × Nat × Nat) × Nat) :=
  if s0 = (-1) then
  if ¬ 0 < (0 : Int32) ∧ (0 : Int32).toNatClampNeg ≤ 100000 then
  mX6_row_b14 N cp (k + 1) (n + (0 : Int32).toNatClampNeg) (g_row A N (fun _ => 0)) ((0 : Int32).toNatClampNeg)
  else none
  else
  (mX6_codes cp 1250 A s0).bind fun q2 =>
  if ¬ q2.2 < (0 : Int32) ∧ q2.2.toNatClampNeg ≤ 100000 then
  mX6_row_b22 N cp (k + 1) (n + q2.2.toNatClampNeg) (g_row q2.1 N (fun _ => 0)) s0 q2.2.toNatClampNeg
  else none
def mX6_row_b0 (N cp k n : Nat) (A : gM) (x1 : Int32) : Option (gM × (Nat × Nat × Nat) × Nat) :=
  (mX6_typeOf N cp A x1).bind fun q1 =>
  mX6_row_b5 N q1.2.1.1 (k + q1.2.1.2.1) (n + q1.2.1.2.2) q1.1 q1.2.2
def mX6_row (N cp : Nat) (A : gM) (x1 : Int32) : Option (gM × (Nat × Nat × Nat) × Nat) := mX6_row_b0 N cp 0 0 A x1
set_option maxHeartbeats 2000000 in
set_option maxRecDepth 20000 in
theorem oX6_row_b32 {N : Nat} {A' : gM} {u : Nat × Nat × Nat} {r : Nat} {K32 : Nat → Nat → Nat → gM → Int32 → Nat → Nat → Int32 → Option (gM × (Nat × Nat × Nat) × Nat)} (oK32 : ∀ {cp k n : Nat} {A : gM} {x2 : Int32} {wx3 : Nat} {wx4 : Nat} {x5 : Int32}, K32 cp k n A x2 wx3 wx4 x5 = some (A', u, r) → k ≤ u.2.1 ∧ n ≤ u.2.2) {cp k n : Nat} {A : gM} {x2 : Int32} {wx3 : Nat} {wx4 : Nat} {x5 : Int32} (h : mX6_row_b32 N cp k n K32 A x2 wx3 wx4 x5 = some (A', u, r)) : k ≤ u.2.1 ∧ n ≤ u.2.2 := by
  unfold mX6_row_b32 at h
  by_cases c1 : 60 < x5
  · have h := g_tt c1 h
    obtain ⟨q2, eq2, h⟩ := g_bd h
    obtain ⟨rfl, h2⟩ := Prod.mk.inj (Option.some.inj h)
    obtain ⟨rfl, rfl⟩ := Prod.mk.inj h2
    exact ⟨Nat.le_refl _, Nat.le_refl _⟩
  · have h := g_ff c1 h
    obtain ⟨hg3, h⟩ := g_gd h
    obtain ⟨A4, eA4, h⟩ := g_lt h
    obtain ⟨v5, ev5, h⟩ := g_lt h
    exact oK32 h

set_option maxHeartbeats 2000000 in
set_option maxRecDepth 20000 in
theorem wX6_row_b32 (hN : 193 ≤ N)  {A0 A' : gM} {u : Nat × Nat × Nat} {r : Nat} (C : gC p (g_rmx 1512 u.2.1 u.2.2) s m args meth c cX6_row RX6 6 D g (va_A (gw g ad0 ln0 A0 N) s.heap.size) 1512) (hr : meth.sig.returnType = some (.array .int)) {K32 : Nat → Nat → Nat → gM → Int32 → Nat → Nat → Int32 → Option (gM × (Nat × Nat × Nat) × Nat)} (hK32 : ∀ {ad ln : Nat → Nat} {cp k n : Nat} (_ : g_chg N ad0 ln0 ad ln cp) {A : gM} {x2 : Int32} {wx3 : Nat} {wx4 : Nat} {x5 : Int32} (_ : g_ln ln N = wx3) (_ : g_ln ln (N + 1) = wx4), K32 cp k n A x2 wx3 wx4 x5 = some (A', u, r) → gJ p l e (g_rmx 1512 u.2.1 u.2.2) s m args below meth c (gEAr below D g N ad0 ln0 A0 A' u r args s) 6 D g (va_A (gw g ad0 ln0 A0 N) s.heap.size) (N + 2) ad ln A [(0, gr 183), (2, gi x2), (3, gr N), (4, gr (N + 1)), (5, gi x5)] k n 32 []) (oK32 : ∀ {cp k n : Nat} {A : gM} {x2 : Int32} {wx3 : Nat} {wx4 : Nat} {x5 : Int32}, K32 cp k n A x2 wx3 wx4 x5 = some (A', u, r) → k ≤ u.2.1 ∧ n ≤ u.2.2) {cp k n : Nat} (hch : g_chg N ad0 ln0 ad ln cp) {A : gM} {x2 : Int32} {wx3 : Nat} {wx4 : Nat} {x5 : Int32} (hwx3 : g_ln ln N = wx3) (hwx4 : g_ln ln (N + 1) = wx4) (h : mX6_row_b32 N cp k n K32 A x2 wx3 wx4 x5 = some (A', u, r)) : gJ p l e (g_rmx 1512 u.2.1 u.2.2) s m args below meth c (gEAr below D g N ad0 ln0 A0 A' u r args s) 6 D g (va_A (gw g ad0 ln0 A0 N) s.heap.size) (N + 2) ad ln A [(0, gr 183), (2, gi x2), (3, gr N), (4, gr (N + 1)), (5, gi x5)] k n 32 [] := by
  have hkn := oX6_row_b32 oK32 h
  unfold mX6_row_b32 at h
  refine g_iload C 4 dX6_row_32 rfl ?_
  refine g_bipush (v := 60) C dX6_row_34 (by decide) ?_
  refine g_icmp_gt C dX6_row_36 (tgt := 51) (by decide) (fun c1 => ?_) (fun c1 => ?_)
  · have h := g_tt c1 h
    refine g_aload_n C 0 dX6_row_51 rfl ?_
    refine g_iload_n C 1 dX6_row_52 rfl ?_
    refine g_aload_n C 2 dX6_row_53 rfl ?_
    refine g_iconst (v := 0) C dX6_row_54 (by decide) ?_
    refine g_aload C 3 dX6_row_55 rfl ?_
    obtain ⟨q2, eq2, h⟩ := g_bd h
    refine g_calliV C 183 [gi x2, gr N, gi 0, gr (N + 1)] (kX6_write (by omega) hch.2 62 ⟨(by omega), (g_isI_big (by omega)), hwx3⟩ ⟨(by omega), (g_isI_big (by omega)), hwx4⟩ eq2) qs_X6_169 (by omega) (by omega) rfl rfl rfl rfl (Nat.le_of_ble_eq_true rfl) hkn dX6_row_57 ?_
    refine g_pop_i C dX6_row_60 ?_
    refine g_aload_n C 2 dX6_row_61 rfl ?_
    obtain ⟨rfl, h2⟩ := Prod.mk.inj (Option.some.inj h)
    obtain ⟨rfl, rfl⟩ := Prod.mk.inj h2
    refine g_drop ?_
    exact g_retAr C hch ((g_ln_big hN).symm.trans hwx3) hr (Or.inr ⟨_, rfl⟩) dX6_row_62
  · have h := g_ff c1 h
    refine g_aload C 3 dX6_row_39 rfl ?_
    refine g_iload C 4 dX6_row_41 rfl ?_
    refine g_iconst (v := (-1)) C dX6_row_43 (by decide) ?_
    obtain ⟨hg3, h⟩ := g_gd h
    obtain ⟨A4, eA4, h⟩ := g_lt h
    refine g_iast C (N + 1) (by omega) (g_isI_big (by omega)) hwx4 hg3 eA4 dX6_row_44 ?_
    obtain ⟨v5, ev5, h⟩ := g_lt h
    refine g_iinc C 4 dX6_row_45 rfl ev5 (by decide) rfl ?_
    refine g_goto C dX6_row_48 (tgt := 32) (by decide) ?_
    refine g_sub [1, 2, 3, 4, 0] rfl ?_
    exact hK32 hch hwx3 hwx4 h

set_option maxHeartbeats 2000000 in
set_option maxRecDepth 20000 in
theorem oX6_row_L32 {N : Nat} {A' : gM} {u : Nat × Nat × Nat} {r : Nat}  : ∀ (f : Nat) {cp k n : Nat} {A : gM} {x2 : Int32} {wx3 : Nat} {wx4 : Nat} {x5 : Int32}, mX6_row_L32 N f cp k n A x2 wx3 wx4 x5 = some (A', u, r) → k ≤ u.2.1 ∧ n ≤ u.2.2
  | 0, _, _, _, A, x2, wx3, wx4, x5, h => by cases h
  | f + 1, cp, k, n, A, x2, wx3, wx4, x5, h => oX6_row_b32 (K32 := mX6_row_L32 N f) (fun h => oX6_row_L32 f h) h
set_option maxHeartbeats 2000000 in
set_option maxRecDepth 20000 in
theorem wX6_row_L32 (hN : 193 ≤ N)  {A0 A' : gM} {u : Nat × Nat × Nat} {r : Nat} (C : gC p (g_rmx 1512 u.2.1 u.2.2) s m args meth c cX6_row RX6 6 D g (va_A (gw g ad0 ln0 A0 N) s.heap.size) 1512) (hr : meth.sig.returnType = some (.array .int))  : ∀ (f : Nat) {ad ln : Nat → Nat} {cp k n : Nat} (_ : g_chg N ad0 ln0 ad ln cp) {A : gM} {x2 : Int32} {wx3 : Nat} {wx4 : Nat} {x5 : Int32} (_ : g_ln ln N = wx3) (_ : g_ln ln (N + 1) = wx4), mX6_row_L32 N f cp k n A x2 wx3 wx4 x5 = some (A', u, r) → gJ p l e (g_rmx 1512 u.2.1 u.2.2) s m args below meth c (gEAr below D g N ad0 ln0 A0 A' u r args s) 6 D g (va_A (gw g ad0 ln0 A0 N) s.heap.size) (N + 2) ad ln A [(0, gr 183), (2, gi x2), (3, gr N), (4, gr (N + 1)), (5, gi x5)] k n 32 []
  | 0, ad, ln, cp, k, n, hch, A, x2, wx3, wx4, x5, hwx3, hwx4, h => by cases h
  | f + 1, ad, ln, cp, k, n, hch, A, x2, wx3, wx4, x5, hwx3, hwx4, h => wX6_row_b32 (K32 := mX6_row_L32 N f) hN C hr (fun {ad ln} {cp k n} hch {A} {x2} {wx3} {wx4} {x5} hwx3 hwx4 h => wX6_row_L32 hN C hr f hch hwx3 hwx4 h) (fun h => oX6_row_L32 f h) hch hwx3 hwx4 h
set_option maxHeartbeats 2000000 in
set_option maxRecDepth 20000 in
theorem oX6_row_b27 {N : Nat} {A' : gM} {u : Nat × Nat × Nat} {r : Nat}  {cp k n : Nat} {A : gM} {x2 : Int32} {wx3 : Nat} {ws0 : Nat} (h : mX6_row_b27 N cp k n A x2 wx3 ws0 = some (A', u, r)) : k ≤ u.2.1 ∧ n ≤ u.2.2 := by
  unfold mX6_row_b27 at h
  exact oX6_row_L32 gF h

set_option maxHeartbeats 2000000 in
set_option maxRecDepth 20000 in
theorem wX6_row_b27 (hN : 193 ≤ N)  {A0 A' : gM} {u : Nat × Nat × Nat} {r : Nat} (C : gC p (g_rmx 1512 u.2.1 u.2.2) s m args meth c cX6_row RX6 6 D g (va_A (gw g ad0 ln0 A0 N) s.heap.size) 1512) (hr : meth.sig.returnType = some (.array .int))  {cp k n : Nat} (hch : g_chg N ad0 ln0 ad ln cp) {A : gM} {x2 : Int32} {wx3 : Nat} {ws0 : Nat} (hwx3 : g_ln ln N = wx3) (hws0 : g_ln ln (N + 1) = ws0) (h : mX6_row_b27 N cp k n A x2 wx3 ws0 = some (A', u, r)) : gJ p l e (g_rmx 1512 u.2.1 u.2.2) s m args below meth c (gEAr below D g N ad0 ln0 A0 A' u r args s) 6 D g (va_A (gw g ad0 ln0 A0 N) s.heap.size) (N + 2) ad ln A [(0, gr 183), (2, gi x2), (3, gr N)] k n 27 [gr (N + 1)] := by
  have hkn := oX6_row_b27 h
  unfold mX6_row_b27 at h
  refine g_astore C dX6_row_27 (by decide) rfl ?_
  refine g_iconst (v := 0) C dX6_row_29 (by decide) ?_
  refine g_istore C dX6_row_30 (by decide) rfl ?_
  refine g_sub [2, 3, 4, 1, 0] rfl ?_
  exact wX6_row_L32 hN C hr gF hch hwx3 hws0 h

set_option maxHeartbeats 2000000 in
set_option maxRecDepth 20000 in
theorem oX6_row_b22 {N : Nat} {A' : gM} {u : Nat × Nat × Nat} {r : Nat}  {cp k n : Nat} {A : gM} {x2 : Int32} {ws0 : Nat} (h : mX6_row_b22 N cp k n A x2 ws0 = some (A', u, r)) : k ≤ u.2.1 ∧ n ≤ u.2.2 := by
  unfold mX6_row_b22 at h
  obtain ⟨hg1, h⟩ := g_gd h
  have mo := oX6_row_b27 h
  exact ⟨by omega, by omega⟩

set_option maxHeartbeats 2000000 in
set_option maxRecDepth 20000 in
theorem wX6_row_b22 (hN : 193 ≤ N)  {A0 A' : gM} {u : Nat × Nat × Nat} {r : Nat} (C : gC p (g_rmx 1512 u.2.1 u.2.2) s m args meth c cX6_row RX6 6 D g (va_A (gw g ad0 ln0 A0 N) s.heap.size) 1512) (hr : meth.sig.returnType = some (.array .int))  {cp k n : Nat} (hch : g_chg N ad0 ln0 ad ln cp) {A : gM} {x2 : Int32} {ws0 : Nat} (hws0 : g_ln ln N = ws0) (h : mX6_row_b22 N cp k n A x2 ws0 = some (A', u, r)) : gJ p l e (g_rmx 1512 u.2.1 u.2.2) s m args below meth c (gEAr below D g N ad0 ln0 A0 A' u r args s) 6 D g (va_A (gw g ad0 ln0 A0 N) s.heap.size) (N + 1) ad ln A [(0, gr 183), (2, gi x2)] k n 22 [gr N] := by
  have hkn := oX6_row_b22 h
  unfold mX6_row_b22 at h
  refine g_astore_n C dX6_row_22 (by decide) rfl ?_
  refine g_bipush (v := 61) C dX6_row_23 (by decide) ?_
  obtain ⟨hg1, h⟩ := g_gd h
  have mo := oX6_row_b27 h
  refine g_newI C (N := (N + 1)) (by omega) qa_int hg1.1 rfl hg1.2 ⟨mo.1, mo.2⟩ (And.intro (by omega) (And.intro (by omega) True.intro)) True.intro dX6_row_25 (fun q => ?_)
  have hch : g_chg N ad0 ln0 (va_up ad (N + 1) q) (va_up ln (N + 1) (61 : Int32).toNatClampNeg) cp := g_chg_new (by omega) hch
  have hws0 := g_len_new (q := N) (w := (61 : Int32).toNatClampNeg) (by omega) (N := (N + 1)) hws0
  refine g_sub [1, 2, 0] rfl ?_
  exact wX6_row_b27 hN C hr hch hws0 (g_len_made (N := (N + 1)) (by omega)) h

set_option maxHeartbeats 2000000 in
set_option maxRecDepth 20000 in
theorem oX6_row_b14 {N : Nat} {A' : gM} {u : Nat × Nat × Nat} {r : Nat}  {cp k n : Nat} {A : gM} {ws0 : Nat} (h : mX6_row_b14 N cp k n A ws0 = some (A', u, r)) : k ≤ u.2.1 ∧ n ≤ u.2.2 := by
  unfold mX6_row_b14 at h
  obtain ⟨rfl, h2⟩ := Prod.mk.inj (Option.some.inj h)
  obtain ⟨rfl, rfl⟩ := Prod.mk.inj h2
  exact ⟨Nat.le_refl _, Nat.le_refl _⟩

set_option maxHeartbeats 2000000 in
set_option maxRecDepth 20000 in
theorem wX6_row_b14 (hN : 193 ≤ N)  {A0 A' : gM} {u : Nat × Nat × Nat} {r : Nat} (C : gC p (g_rmx 1512 u.2.1 u.2.2) s m args meth c cX6_row RX6 6 D g (va_A (gw g ad0 ln0 A0 N) s.heap.size) 1512) (hr : meth.sig.returnType = some (.array .int))  {cp k n : Nat} (hch : g_chg N ad0 ln0 ad ln cp) {A : gM} {ws0 : Nat} (hws0 : g_ln ln N = ws0) (h : mX6_row_b14 N cp k n A ws0 = some (A', u, r)) : gJ p l e (g_rmx 1512 u.2.1 u.2.2) s m args below meth c (gEAr below D g N ad0 ln0 A0 A' u r args s) 6 D g (va_A (gw g ad0 ln0 A0 N) s.heap.size) (N + 1) ad ln A [] k n 14 [gr N] := by
  have hkn := oX6_row_b14 h
  unfold mX6_row_b14 at h
  obtain ⟨rfl, h2⟩ := Prod.mk.inj (Option.some.inj h)
  obtain ⟨rfl, rfl⟩ := Prod.mk.inj h2
  exact g_retAr C hch ((g_ln_big hN).symm.trans hws0) hr (Or.inr ⟨_, rfl⟩) dX6_row_14

set_option maxHeartbeats 2000000 in
set_option maxRecDepth 20000 in
theorem oX6_row_b5 {N : Nat} {A' : gM} {u : Nat × Nat × Nat} {r : Nat}  {cp k n : Nat} {A : gM} {s0 : Int32} (h : mX6_row_b5 N cp k n A s0 = some (A', u, r)) : k ≤ u.2.1 ∧ n ≤ u.2.2 := by
  unfold mX6_row_b5 at h
  by_cases c1 : s0 = (-1)
  · have h := g_tt c1 h
    obtain ⟨hg4, h⟩ := g_gd h
    have mo := oX6_row_b14 h
    exact ⟨by omega, by omega⟩
  · have h := g_ff c1 h
    obtain ⟨q2, eq2, h⟩ := g_bd h
    obtain ⟨hg3, h⟩ := g_gd h
    have mo := oX6_row_b22 h
    exact ⟨by omega, by omega⟩

set_option maxHeartbeats 2000000 in
set_option maxRecDepth 20000 in
theorem wX6_row_b5 (hN : 193 ≤ N)  {A0 A' : gM} {u : Nat × Nat × Nat} {r : Nat} (C : gC p (g_rmx 1512 u.2.1 u.2.2) s m args meth c cX6_row RX6 6 D g (va_A (gw g ad0 ln0 A0 N) s.heap.size) 1512) (hr : meth.sig.returnType = some (.array .int))  {cp k n : Nat} (hch : g_chg N ad0 ln0 ad ln cp) {A : gM} {s0 : Int32} (h : mX6_row_b5 N cp k n A s0 = some (A', u, r)) : gJ p l e (g_rmx 1512 u.2.1 u.2.2) s m args below meth c (gEAr below D g N ad0 ln0 A0 A' u r args s) 6 D g (va_A (gw g ad0 ln0 A0 N) s.heap.size) N ad ln A [(0, gr 183)] k n 5 [gi s0] := by
  have hkn := oX6_row_b5 h
  unfold mX6_row_b5 at h
  refine g_istore_n C dX6_row_5 (by decide) rfl ?_
  refine g_iload_n C 0 dX6_row_6 rfl ?_
  refine g_iconst (v := (-1)) C dX6_row_7 (by decide) ?_
  refine g_icmp_ne C dX6_row_8 (tgt := 15) (by decide) (fun c1 => ?_) (fun c1 => ?_)
  · have h := g_ff c1 h
    refine g_aload_n C 1 dX6_row_15 rfl ?_
    refine g_iload_n C 0 dX6_row_16 rfl ?_
    obtain ⟨q2, eq2, h⟩ := g_bd h
    refine g_calliV C 183 [gi s0] (kX6_codes hN hch.2 1250 eq2) qs_X6_111 (by omega) (by omega) rfl rfl rfl rfl (Nat.le_of_ble_eq_true rfl) hkn dX6_row_17 ?_
    obtain ⟨hg3, h⟩ := g_gd h
    have mo := oX6_row_b22 h
    refine g_newI C (N := N) (by omega) qa_int hg3.1 rfl hg3.2 ⟨mo.1, mo.2⟩ (And.intro (by omega) True.intro) True.intro dX6_row_20 (fun q => ?_)
    have hch : g_chg N ad0 ln0 (va_up ad N q) (va_up ln N q2.2.toNatClampNeg) cp := g_chg_new (by omega) hch
    refine g_sub [1, 0] rfl ?_
    exact wX6_row_b22 hN C hr hch (g_len_made (N := N) (by omega)) h
  · have h := g_tt c1 h
    refine g_iconst (v := 0) C dX6_row_11 (by decide) ?_
    obtain ⟨hg4, h⟩ := g_gd h
    have mo := oX6_row_b14 h
    refine g_newI C (N := N) (by omega) qa_int hg4.1 rfl hg4.2 ⟨mo.1, mo.2⟩ (And.intro (by omega) True.intro) True.intro dX6_row_12 (fun q => ?_)
    have hch : g_chg N ad0 ln0 (va_up ad N q) (va_up ln N (0 : Int32).toNatClampNeg) cp := g_chg_new (by omega) hch
    refine g_sub [] rfl ?_
    exact wX6_row_b14 hN C hr hch (g_len_made (N := N) (by omega)) h

set_option maxHeartbeats 2000000 in
set_option maxRecDepth 20000 in
theorem oX6_row_b0 {N : Nat} {A' : gM} {u : Nat × Nat × Nat} {r : Nat}  {cp k n : Nat} {A : gM} {x1 : Int32} (h : mX6_row_b0 N cp k n A x1 = some (A', u, r)) : k ≤ u.2.1 ∧ n ≤ u.2.2 := by
  unfold mX6_row_b0 at h
  obtain ⟨q1, eq1, h⟩ := g_bd h
  have mo := oX6_row_b5 h
  exact ⟨by omega, by omega⟩

set_option maxHeartbeats 2000000 in
set_option maxRecDepth 20000 in
theorem wX6_row_b0 (hN : 193 ≤ N)  {A0 A' : gM} {u : Nat × Nat × Nat} {r : Nat} (C : gC p (g_rmx 1512 u.2.1 u.2.2) s m args meth c cX6_row RX6 6 D g (va_A (gw g ad0 ln0 A0 N) s.heap.size) 1512) (hr : meth.sig.returnType = some (.array .int))  {cp k n : Nat} (hch : g_chg N ad0 ln0 ad ln cp) {A : gM} {x1 : Int32} (h : mX6_row_b0 N cp k n A x1 = some (A', u, r)) : gJ p l e (g_rmx 1512 u.2.1 u.2.2) s m args below meth c (gEAr below D g N ad0 ln0 A0 A' u r args s) 6 D g (va_A (gw g ad0 ln0 A0 N) s.heap.size) N ad ln A [(0, gr 183), (1, gi x1)] k n 0 [] := by
  have hkn := oX6_row_b0 h
  unfold mX6_row_b0 at h
  refine g_aload_n C 0 dX6_row_0 rfl ?_
  refine g_iload_n C 1 dX6_row_1 rfl ?_
  obtain ⟨q1, eq1, h⟩ := g_bd h
  have mo := oX6_row_b5 h
  refine g_callAiV C 183 [gi x1] (kX6_typeOf hN hch.2 eq1) qs_X6_173 (by omega) (by omega) rfl rfl rfl rfl (Nat.le_of_ble_eq_true rfl) ⟨mo.1, mo.2⟩ (And.intro ⟨by omega, by omega⟩ True.intro) True.intro dX6_row_2 (fun ad1 ln1 hch1 => ?_)
  have hch := g_chg.trans (by omega) hch hch1
  refine g_sub [0] rfl ?_
  exact wX6_row_b5 hN C hr hch h

set_option maxHeartbeats 2000000 in
set_option maxRecDepth 20000 in
theorem kX6_row {l : Launch} {D : va_G} {g : gT} {N : Nat} (hN : 193 ≤ N) {ad ln : Nat → Nat} {cp : Nat} (hcp : g_cap ln cp) {A A' : gM} {x1 : Int32} {u : Nat × Nat × Nat} {r : Nat} (h : mX6_row N cp A x1 = some (A', u, r)) : gAr l yX6_row cX6_row 6 (some (.array .int)) (1512) D g N ad ln A [gr 183, gi x1] A' u r := by
  refine g_metAr (by decide) (Nat.le_of_ble_eq_true rfl) ?_
  intro p e s m args below meth c C hr
  refine g_sub [0, 1] rfl ?_
  exact wX6_row_b0 hN C hr (g_chg.rf hcp) h
def mX6_typeTold_b77 (N cp k n : Nat) (K77 : Nat → Nat → Nat → gM → Int32 → Nat → Int32 → Int32 → Option (gM × (Nat × Nat × Nat) × Int32)) (A : gM) (x4 : Int32) (wx5 : Nat) (x6 : Int32) (x7 : Int32) : Option (gM × (Nat × Nat × Nat) × Int32) :=
  if x6 ≤ x7 then
  some (A, (cp, k, n), ((x4 - 10) + 1))
  else
  if g_in x7 wx5 = true then
  g_let (A N x7.toNatClampNeg) fun v3 =>
  g_let (if x4 < v3 then v3 else x4) fun v4 =>
  g_let (x7 + 1) fun v5 =>
  K77 cp k n A v4 wx5 x6 v5
  else none
def mX6_typeTold_L77 (N : Nat) : Nat → Nat → Nat → Nat → gM → Int32 → Nat → Int32 → Int32 → Option (gM × (Nat × Nat × Nat) × Int32)
  | 0 => fun _ _ _ _ _ _ _ _ => none
  | f + 1 => fun cp k n => mX6_typeTold_b77 N cp k n (mX6_typeTold_L77 N f)
def mX6_typeTold_b67 (N cp k n : Nat) (A : gM) (x4 : Int32) (ws0 : Nat) : Option (gM × (Nat × Nat × Nat) × Int32) :=
  g_let (Int32.ofNat ws0) fun v1 =>
  mX6_typeTold_L77 N gF cp k n A x4 ws0 v1 0
def mX6_typeTold_b57 (N cp k n : Nat) (A : gM) (s0 : Int32) : Option (gM × (Nat × Nat × Nat) × Int32) :=
  some (A, (cp, k, n), s0)
def mX6_typeTold_b26 (N cp k n : Nat) (A : gM) (s0 : Int32) : Option (gM × (Nat × Nat × Nat) × Int32) :=
  some (A, (cp, k, n), s0)
def mX6_typeTold_b5 (N cp k n : Nat) (A : gM) (x1 : Int32) (x2 : Int32) (s0 : Int32) : Option (gM × (Nat × Nat × Nat) × Int32) :=
  if 2 ≤ x2 then
  if s0 = (-1) then
  some (A, (cp, k, n), 0)
  else
  if x2 = 3 then
  (mX6_row N cp A x1).bind fun q4 =>
  mX6_typeTold_b67 N q4.2.1.1 (k + q4.2.1.2.1) (n + q4.2.1.2.2) q4.1 9 q4.2.2
  else
  if x2 = 2 then
  (mX6_codes cp 1250 A s0).bind fun q7 =>
  mX6_typeTold_b57 N cp k n q7.1 q7.2
  else
  (mX6_deep cp 62 A s0).bind fun q6 =>
  mX6_typeTold_b57 N cp k n q6.1 q6.2
  else
  if x2 = 0 then
  mX6_typeTold_b26 N cp k n A (A 183 12)
  else
  mX6_typeTold_b26 N cp k n A (A 183 13)
def mX6_typeTold_b0 (N cp k n : Nat) (A : gM) (x1 : Int32) (x2 : Int32) : Option (gM × (Nat × Nat × Nat) × Int32) :=
  (mX6_typeOf N cp A x1).bind fun q1 =>
  mX6_typeTold_b5 N q1.2.1.1 (k + q1.2.1.2.1) (n + q1.2.1.2.2) q1.1 x1 x2 q1.2.2
def mX6_typeTold (N cp : Nat) (A : gM) (x1 : Int32) (x2 : Int32) : Option (gM × (Nat × Nat × Nat) × Int32) := mX6_typeTold_b0 N cp 0 0 A x1 x2
set_option maxHeartbeats 2000000 in
set_option maxRecDepth 20000 in
theorem oX6_typeTold_b77 {N : Nat} {A' : gM} {u : Nat × Nat × Nat} {r : Int32} {K77 : Nat → Nat → Nat → gM → Int32 → Nat → Int32 → Int32 → Option (gM × (Nat × Nat × Nat) × Int32)} (oK77 : ∀ {cp k n : Nat} {A : gM} {x4 : Int32} {wx5 : Nat} {x6 : Int32} {x7 : Int32}, K77 cp k n A x4 wx5 x6 x7 = some (A', u, r) → k ≤ u.2.1 ∧ n ≤ u.2.2) {cp k n : Nat} {A : gM} {x4 : Int32} {wx5 : Nat} {x6 : Int32} {x7 : Int32} (h : mX6_typeTold_b77 N cp k n K77 A x4 wx5 x6 x7 = some (A', u, r)) : k ≤ u.2.1 ∧ n ≤ u.2.2 := by
  unfold mX6_typeTold_b77 at h
  by_cases c1 : x6 ≤ x7
  · have h := g_tt c1 h
    obtain ⟨rfl, h2⟩ := Prod.mk.inj (Option.some.inj h)
    obtain ⟨rfl, rfl⟩ := Prod.mk.inj h2
    exact ⟨Nat.le_refl _, Nat.le_refl _⟩
  · have h := g_ff c1 h
    obtain ⟨hg2, h⟩ := g_gd h
    obtain ⟨v3, ev3, h⟩ := g_lt h
    obtain ⟨v4, ev4, h⟩ := g_lt h
    obtain ⟨v5, ev5, h⟩ := g_lt h
    exact oK77 h

set_option maxHeartbeats 2000000 in
set_option maxRecDepth 20000 in
theorem wX6_typeTold_b77 (hN : 193 ≤ N)  {A0 A' : gM} {u : Nat × Nat × Nat} {r : Int32} (C : gC p (g_rmx 1513 u.2.1 u.2.2) s m args meth c cX6_typeTold RX6 9 D g (va_A (gw g ad0 ln0 A0 N) s.heap.size) 1513) (hr : meth.sig.returnType = some .int) {K77 : Nat → Nat → Nat → gM → Int32 → Nat → Int32 → Int32 → Option (gM × (Nat × Nat × Nat) × Int32)} (hK77 : ∀ {ad ln : Nat → Nat} {cp k n : Nat} (_ : g_chg N ad0 ln0 ad ln cp) {A : gM} {x4 : Int32} {wx5 : Nat} {x6 : Int32} {x7 : Int32} (_ : g_ln ln N = wx5), K77 cp k n A x4 wx5 x6 x7 = some (A', u, r) → gJ p l e (g_rmx 1513 u.2.1 u.2.2) s m args below meth c (gEAi below D g N ad0 ln0 A0 A' u r args s) 9 D g (va_A (gw g ad0 ln0 A0 N) s.heap.size) (N + 1) ad ln A [(4, gi x4), (5, gr N), (6, gi x6), (7, gi x7)] k n 77 []) (oK77 : ∀ {cp k n : Nat} {A : gM} {x4 : Int32} {wx5 : Nat} {x6 : Int32} {x7 : Int32}, K77 cp k n A x4 wx5 x6 x7 = some (A', u, r) → k ≤ u.2.1 ∧ n ≤ u.2.2) {cp k n : Nat} (hch : g_chg N ad0 ln0 ad ln cp) {A : gM} {x4 : Int32} {wx5 : Nat} {x6 : Int32} {x7 : Int32} (hwx5 : g_ln ln N = wx5) (h : mX6_typeTold_b77 N cp k n K77 A x4 wx5 x6 x7 = some (A', u, r)) : gJ p l e (g_rmx 1513 u.2.1 u.2.2) s m args below meth c (gEAi below D g N ad0 ln0 A0 A' u r args s) 9 D g (va_A (gw g ad0 ln0 A0 N) s.heap.size) (N + 1) ad ln A [(4, gi x4), (5, gr N), (6, gi x6), (7, gi x7)] k n 77 [] := by
  have hkn := oX6_typeTold_b77 oK77 h
  unfold mX6_typeTold_b77 at h
  refine g_iload C 3 dX6_typeTold_77 rfl ?_
  refine g_iload C 2 dX6_typeTold_79 rfl ?_
  refine g_icmp_ge C dX6_typeTold_81 (tgt := 106) (by decide) (fun c1 => ?_) (fun c1 => ?_)
  · have h := g_tt c1 h
    refine g_iload C 0 dX6_typeTold_106 rfl ?_
    refine g_bipush (v := 10) C dX6_typeTold_108 (by decide) ?_
    refine g_isub C dX6_typeTold_110 ?_
    refine g_iconst (v := 1) C dX6_typeTold_111 (by decide) ?_
    refine g_iadd C dX6_typeTold_112 ?_
    obtain ⟨rfl, h2⟩ := Prod.mk.inj (Option.some.inj h)
    obtain ⟨rfl, rfl⟩ := Prod.mk.inj h2
    refine g_drop ?_
    exact g_retAi C hch hr dX6_typeTold_113
  · have h := g_ff c1 h
    refine g_aload C 1 dX6_typeTold_84 rfl ?_
    refine g_iload C 3 dX6_typeTold_86 rfl ?_
    obtain ⟨hg2, h⟩ := g_gd h
    refine g_iald C N (by omega) (g_isI_big (by omega)) hwx5 hg2 dX6_typeTold_88 ?_
    obtain ⟨v3, ev3, h⟩ := g_lt h
    refine g_topi ev3 ?_
    refine g_istore C dX6_typeTold_89 (by decide) rfl ?_
    refine g_iload C 1 dX6_typeTold_91 rfl ?_
    refine g_iload C 0 dX6_typeTold_93 rfl ?_
    refine g_mmax C qm_X6_179 (by omega) (Nat.le_of_ble_eq_true rfl) hkn dX6_typeTold_95 ?_
    obtain ⟨v4, ev4, h⟩ := g_lt h
    refine g_topi ev4 ?_
    refine g_istore C dX6_typeTold_98 (by decide) rfl ?_
    obtain ⟨v5, ev5, h⟩ := g_lt h
    refine g_iinc C 4 dX6_typeTold_100 rfl ev5 (by decide) rfl ?_
    refine g_goto C dX6_typeTold_103 (tgt := 77) (by decide) ?_
    refine g_sub [1, 3, 4, 0] rfl ?_
    exact hK77 hch hwx5 h

set_option maxHeartbeats 2000000 in
set_option maxRecDepth 20000 in
theorem oX6_typeTold_L77 {N : Nat} {A' : gM} {u : Nat × Nat × Nat} {r : Int32}  : ∀ (f : Nat) {cp k n : Nat} {A : gM} {x4 : Int32} {wx5 : Nat} {x6 : Int32} {x7 : Int32}, mX6_typeTold_L77 N f cp k n A x4 wx5 x6 x7 = some (A', u, r) → k ≤ u.2.1 ∧ n ≤ u.2.2
  | 0, _, _, _, A, x4, wx5, x6, x7, h => by cases h
  | f + 1, cp, k, n, A, x4, wx5, x6, x7, h => oX6_typeTold_b77 (K77 := mX6_typeTold_L77 N f) (fun h => oX6_typeTold_L77 f h) h
set_option maxHeartbeats 2000000 in
set_option maxRecDepth 20000 in
theorem wX6_typeTold_L77 (hN : 193 ≤ N)  {A0 A' : gM} {u : Nat × Nat × Nat} {r : Int32} (C : gC p (g_rmx 1513 u.2.1 u.2.2) s m args meth c cX6_typeTold RX6 9 D g (va_A (gw g ad0 ln0 A0 N) s.heap.size) 1513) (hr : meth.sig.returnType = some .int)  : ∀ (f : Nat) {ad ln : Nat → Nat} {cp k n : Nat} (_ : g_chg N ad0 ln0 ad ln cp) {A : gM} {x4 : Int32} {wx5 : Nat} {x6 : Int32} {x7 : Int32} (_ : g_ln ln N = wx5), mX6_typeTold_L77 N f cp k n A x4 wx5 x6 x7 = some (A', u, r) → gJ p l e (g_rmx 1513 u.2.1 u.2.2) s m args below meth c (gEAi below D g N ad0 ln0 A0 A' u r args s) 9 D g (va_A (gw g ad0 ln0 A0 N) s.heap.size) (N + 1) ad ln A [(4, gi x4), (5, gr N), (6, gi x6), (7, gi x7)] k n 77 []
  | 0, ad, ln, cp, k, n, hch, A, x4, wx5, x6, x7, hwx5, h => by cases h
  | f + 1, ad, ln, cp, k, n, hch, A, x4, wx5, x6, x7, hwx5, h => wX6_typeTold_b77 (K77 := mX6_typeTold_L77 N f) hN C hr (fun {ad ln} {cp k n} hch {A} {x4} {wx5} {x6} {x7} hwx5 h => wX6_typeTold_L77 hN C hr f hch hwx5 h) (fun h => oX6_typeTold_L77 f h) hch hwx5 h
set_option maxHeartbeats 2000000 in
set_option maxRecDepth 20000 in
theorem oX6_typeTold_b67 {N : Nat} {A' : gM} {u : Nat × Nat × Nat} {r : Int32}  {cp k n : Nat} {A : gM} {x4 : Int32} {ws0 : Nat} (h : mX6_typeTold_b67 N cp k n A x4 ws0 = some (A', u, r)) : k ≤ u.2.1 ∧ n ≤ u.2.2 := by
  unfold mX6_typeTold_b67 at h
  obtain ⟨v1, ev1, h⟩ := g_lt h
  exact oX6_typeTold_L77 gF h

set_option maxHeartbeats 2000000 in
set_option maxRecDepth 20000 in
theorem wX6_typeTold_b67 (hN : 193 ≤ N)  {A0 A' : gM} {u : Nat × Nat × Nat} {r : Int32} (C : gC p (g_rmx 1513 u.2.1 u.2.2) s m args meth c cX6_typeTold RX6 9 D g (va_A (gw g ad0 ln0 A0 N) s.heap.size) 1513) (hr : meth.sig.returnType = some .int)  {cp k n : Nat} (hch : g_chg N ad0 ln0 ad ln cp) {A : gM} {x4 : Int32} {ws0 : Nat} (hws0 : g_ln ln N = ws0) (h : mX6_typeTold_b67 N cp k n A x4 ws0 = some (A', u, r)) : gJ p l e (g_rmx 1513 u.2.1 u.2.2) s m args below meth c (gEAi below D g N ad0 ln0 A0 A' u r args s) 9 D g (va_A (gw g ad0 ln0 A0 N) s.heap.size) (N + 1) ad ln A [(4, gi x4)] k n 67 [gr N] := by
  have hkn := oX6_typeTold_b67 h
  unfold mX6_typeTold_b67 at h
  refine g_astore C dX6_typeTold_67 (by decide) rfl ?_
  refine g_aload C 0 dX6_typeTold_69 rfl ?_
  refine g_alen (v := Int32.ofNat ws0) C N (by omega) (g_isI_big (by omega)) (by rw [hws0]) dX6_typeTold_71 ?_
  obtain ⟨v1, ev1, h⟩ := g_lt h
  refine g_topi ev1 ?_
  refine g_istore C dX6_typeTold_72 (by decide) rfl ?_
  refine g_iconst (v := 0) C dX6_typeTold_74 (by decide) ?_
  refine g_istore C dX6_typeTold_75 (by decide) rfl ?_
  refine g_sub [3, 2, 1, 0] rfl ?_
  exact wX6_typeTold_L77 hN C hr gF hch hws0 h

set_option maxHeartbeats 2000000 in
set_option maxRecDepth 20000 in
theorem oX6_typeTold_b57 {N : Nat} {A' : gM} {u : Nat × Nat × Nat} {r : Int32}  {cp k n : Nat} {A : gM} {s0 : Int32} (h : mX6_typeTold_b57 N cp k n A s0 = some (A', u, r)) : k ≤ u.2.1 ∧ n ≤ u.2.2 := by
  unfold mX6_typeTold_b57 at h
  obtain ⟨rfl, h2⟩ := Prod.mk.inj (Option.some.inj h)
  obtain ⟨rfl, rfl⟩ := Prod.mk.inj h2
  exact ⟨Nat.le_refl _, Nat.le_refl _⟩

set_option maxHeartbeats 2000000 in
set_option maxRecDepth 20000 in
theorem wX6_typeTold_b57 (hN : 193 ≤ N)  {A0 A' : gM} {u : Nat × Nat × Nat} {r : Int32} (C : gC p (g_rmx 1513 u.2.1 u.2.2) s m args meth c cX6_typeTold RX6 9 D g (va_A (gw g ad0 ln0 A0 N) s.heap.size) 1513) (hr : meth.sig.returnType = some .int)  {cp k n : Nat} (hch : g_chg N ad0 ln0 ad ln cp) {A : gM} {s0 : Int32} (h : mX6_typeTold_b57 N cp k n A s0 = some (A', u, r)) : gJ p l e (g_rmx 1513 u.2.1 u.2.2) s m args below meth c (gEAi below D g N ad0 ln0 A0 A' u r args s) 9 D g (va_A (gw g ad0 ln0 A0 N) s.heap.size) N ad ln A [] k n 57 [gi s0] := by
  have hkn := oX6_typeTold_b57 h
  unfold mX6_typeTold_b57 at h
  obtain ⟨rfl, h2⟩ := Prod.mk.inj (Option.some.inj h)
  obtain ⟨rfl, rfl⟩ := Prod.mk.inj h2
  exact g_retAi C hch hr dX6_typeTold_57

set_option maxHeartbeats 2000000 in
set_option maxRecDepth 20000 in
theorem oX6_typeTold_b26 {N : Nat} {A' : gM} {u : Nat × Nat × Nat} {r : Int32}  {cp k n : Nat} {A : gM} {s0 : Int32} (h : mX6_typeTold_b26 N cp k n A s0 = some (A', u, r)) : k ≤ u.2.1 ∧ n ≤ u.2.2 := by
  unfold mX6_typeTold_b26 at h
  obtain ⟨rfl, h2⟩ := Prod.mk.inj (Option.some.inj h)
  obtain ⟨rfl, rfl⟩ := Prod.mk.inj h2
  exact ⟨Nat.le_refl _, Nat.le_refl _⟩

set_option maxHeartbeats 2000000 in
set_option maxRecDepth 20000 in
theorem wX6_typeTold_b26 (hN : 193 ≤ N)  {A0 A' : gM} {u : Nat × Nat × Nat} {r : Int32} (C : gC p (g_rmx 1513 u.2.1 u.2.2) s m args meth c cX6_typeTold RX6 9 D g (va_A (gw g ad0 ln0 A0 N) s.heap.size) 1513) (hr : meth.sig.returnType = some .int)  {cp k n : Nat} (hch : g_chg N ad0 ln0 ad ln cp) {A : gM} {s0 : Int32} (h : mX6_typeTold_b26 N cp k n A s0 = some (A', u, r)) : gJ p l e (g_rmx 1513 u.2.1 u.2.2) s m args below meth c (gEAi below D g N ad0 ln0 A0 A' u r args s) 9 D g (va_A (gw g ad0 ln0 A0 N) s.heap.size) N ad ln A [] k n 26 [gi s0] := by
  have hkn := oX6_typeTold_b26 h
  unfold mX6_typeTold_b26 at h
  obtain ⟨rfl, h2⟩ := Prod.mk.inj (Option.some.inj h)
  obtain ⟨rfl, rfl⟩ := Prod.mk.inj h2
  exact g_retAi C hch hr dX6_typeTold_26

set_option maxHeartbeats 2000000 in
set_option maxRecDepth 20000 in
theorem oX6_typeTold_b5 {N : Nat} {A' : gM} {u : Nat × Nat × Nat} {r : Int32}  {cp k n : Nat} {A : gM} {x1 : Int32} {x2 : Int32} {s0 : Int32} (h : mX6_typeTold_b5 N cp k n A x1 x2 s0 = some (A', u, r)) : k ≤ u.2.1 ∧ n ≤ u.2.2 := by
  unfold mX6_typeTold_b5 at h
  by_cases c1 : 2 ≤ x2
  · have h := g_tt c1 h
    by_cases c2 : s0 = (-1)
    · have h := g_tt c2 h
      obtain ⟨rfl, h2⟩ := Prod.mk.inj (Option.some.inj h)
      obtain ⟨rfl, rfl⟩ := Prod.mk.inj h2
      exact ⟨Nat.le_refl _, Nat.le_refl _⟩
    · have h := g_ff c2 h
      by_cases c3 : x2 = 3
      · have h := g_tt c3 h
        obtain ⟨q4, eq4, h⟩ := g_bd h
        have mo := oX6_typeTold_b67 h
        exact ⟨by omega, by omega⟩
      · have h := g_ff c3 h
        by_cases c5 : x2 = 2
        · have h := g_tt c5 h
          obtain ⟨q7, eq7, h⟩ := g_bd h
          exact oX6_typeTold_b57 h
        · have h := g_ff c5 h
          obtain ⟨q6, eq6, h⟩ := g_bd h
          exact oX6_typeTold_b57 h
  · have h := g_ff c1 h
    by_cases c8 : x2 = 0
    · have h := g_tt c8 h
      exact oX6_typeTold_b26 h
    · have h := g_ff c8 h
      exact oX6_typeTold_b26 h

set_option maxHeartbeats 2000000 in
set_option maxRecDepth 20000 in
theorem wX6_typeTold_b5 (hN : 193 ≤ N)  {A0 A' : gM} {u : Nat × Nat × Nat} {r : Int32} (C : gC p (g_rmx 1513 u.2.1 u.2.2) s m args meth c cX6_typeTold RX6 9 D g (va_A (gw g ad0 ln0 A0 N) s.heap.size) 1513) (hr : meth.sig.returnType = some .int)  {cp k n : Nat} (hch : g_chg N ad0 ln0 ad ln cp) {A : gM} {x1 : Int32} {x2 : Int32} {s0 : Int32} (h : mX6_typeTold_b5 N cp k n A x1 x2 s0 = some (A', u, r)) : gJ p l e (g_rmx 1513 u.2.1 u.2.2) s m args below meth c (gEAi below D g N ad0 ln0 A0 A' u r args s) 9 D g (va_A (gw g ad0 ln0 A0 N) s.heap.size) N ad ln A [(0, gr 183), (1, gi x1), (2, gi x2)] k n 5 [gi s0] := by
  have hkn := oX6_typeTold_b5 h
  unfold mX6_typeTold_b5 at h
  refine g_istore_n C dX6_typeTold_5 (by decide) rfl ?_
  refine g_iload_n C 3 dX6_typeTold_6 rfl ?_
  refine g_iconst (v := 2) C dX6_typeTold_7 (by decide) ?_
  refine g_icmp_ge C dX6_typeTold_8 (tgt := 27) (by decide) (fun c1 => ?_) (fun c1 => ?_)
  · have h := g_tt c1 h
    refine g_iload_n C 0 dX6_typeTold_27 rfl ?_
    refine g_iconst (v := (-1)) C dX6_typeTold_28 (by decide) ?_
    refine g_icmp_ne C dX6_typeTold_29 (tgt := 34) (by decide) (fun c2 => ?_) (fun c2 => ?_)
    · have h := g_ff c2 h
      refine g_iload_n C 3 dX6_typeTold_34 rfl ?_
      refine g_iconst (v := 3) C dX6_typeTold_35 (by decide) ?_
      refine g_icmp_eq C dX6_typeTold_36 (tgt := 58) (by decide) (fun c3 => ?_) (fun c3 => ?_)
      · have h := g_tt c3 h
        refine g_bipush (v := 9) C dX6_typeTold_58 (by decide) ?_
        refine g_istore C dX6_typeTold_60 (by decide) rfl ?_
        refine g_aload_n C 2 dX6_typeTold_62 rfl ?_
        refine g_iload_n C 3 dX6_typeTold_63 rfl ?_
        obtain ⟨q4, eq4, h⟩ := g_bd h
        have mo := oX6_typeTold_b67 h
        refine g_callArV C 183 [gi x1] (kX6_row hN hch.2 eq4) qs_X6_188 (by omega) (by omega) rfl rfl rfl rfl (Nat.le_of_ble_eq_true rfl) ⟨mo.1, mo.2⟩ (And.intro ⟨by omega, by omega⟩ True.intro) True.intro dX6_typeTold_64 (fun ad1 ln1 hch1 hlw => ?_)
        have hch := g_chg.trans (by omega) hch hch1
        refine g_sub [0] rfl ?_
        exact wX6_typeTold_b67 hN C hr hch ((g_ln_big (by omega)).trans hlw) h
      · have h := g_ff c3 h
        refine g_iload_n C 3 dX6_typeTold_39 rfl ?_
        refine g_iconst (v := 2) C dX6_typeTold_40 (by decide) ?_
        refine g_icmp_ne C dX6_typeTold_41 (tgt := 52) (by decide) (fun c5 => ?_) (fun c5 => ?_)
        · have h := g_ff c5 h
          refine g_aload_n C 1 dX6_typeTold_52 rfl ?_
          refine g_iload_n C 0 dX6_typeTold_53 rfl ?_
          obtain ⟨q6, eq6, h⟩ := g_bd h
          refine g_calliV C 183 [gi s0] (kX6_deep hN hch.2 62 eq6) qs_X6_176 (by omega) (by omega) rfl rfl rfl rfl (Nat.le_of_ble_eq_true rfl) hkn dX6_typeTold_54 ?_
          refine g_sub [] rfl ?_
          exact wX6_typeTold_b57 hN C hr hch h
        · have h := g_tt c5 h
          refine g_aload_n C 1 dX6_typeTold_44 rfl ?_
          refine g_iload_n C 0 dX6_typeTold_45 rfl ?_
          obtain ⟨q7, eq7, h⟩ := g_bd h
          refine g_calliV C 183 [gi s0] (kX6_codes hN hch.2 1250 eq7) qs_X6_111 (by omega) (by omega) rfl rfl rfl rfl (Nat.le_of_ble_eq_true rfl) hkn dX6_typeTold_46 ?_
          refine g_goto C dX6_typeTold_49 (tgt := 57) (by decide) ?_
          refine g_sub [] rfl ?_
          exact wX6_typeTold_b57 hN C hr hch h
    · have h := g_tt c2 h
      refine g_iconst (v := 0) C dX6_typeTold_32 (by decide) ?_
      obtain ⟨rfl, h2⟩ := Prod.mk.inj (Option.some.inj h)
      obtain ⟨rfl, rfl⟩ := Prod.mk.inj h2
      exact g_retAi C hch hr dX6_typeTold_33
  · have h := g_ff c1 h
    refine g_iload_n C 3 dX6_typeTold_11 rfl ?_
    refine g_if_ne C dX6_typeTold_12 (tgt := 22) (by decide) (fun c8 => ?_) (fun c8 => ?_)
    · have h := g_ff c8 h
      refine g_aload_n C 1 dX6_typeTold_22 rfl ?_
      refine g_get (v := gi (A 183 13)) C 183 13 (by omega) rfl rfl gu_6 (by decide) qf_X6_102 rfl dX6_typeTold_23 ?_
      refine g_sub [] rfl ?_
      exact wX6_typeTold_b26 hN C hr hch h
    · have h := g_tt c8 h
      refine g_aload_n C 1 dX6_typeTold_15 rfl ?_
      refine g_get (v := gi (A 183 12)) C 183 12 (by omega) rfl rfl gu_6 (by decide) qf_X6_99 rfl dX6_typeTold_16 ?_
      refine g_goto C dX6_typeTold_19 (tgt := 26) (by decide) ?_
      refine g_sub [] rfl ?_
      exact wX6_typeTold_b26 hN C hr hch h

set_option maxHeartbeats 2000000 in
set_option maxRecDepth 20000 in
theorem oX6_typeTold_b0 {N : Nat} {A' : gM} {u : Nat × Nat × Nat} {r : Int32}  {cp k n : Nat} {A : gM} {x1 : Int32} {x2 : Int32} (h : mX6_typeTold_b0 N cp k n A x1 x2 = some (A', u, r)) : k ≤ u.2.1 ∧ n ≤ u.2.2 := by
  unfold mX6_typeTold_b0 at h
  obtain ⟨q1, eq1, h⟩ := g_bd h
  have mo := oX6_typeTold_b5 h
  exact ⟨by omega, by omega⟩

set_option maxHeartbeats 2000000 in
set_option maxRecDepth 20000 in
theorem wX6_typeTold_b0 (hN : 193 ≤ N)  {A0 A' : gM} {u : Nat × Nat × Nat} {r : Int32} (C : gC p (g_rmx 1513 u.2.1 u.2.2) s m args meth c cX6_typeTold RX6 9 D g (va_A (gw g ad0 ln0 A0 N) s.heap.size) 1513) (hr : meth.sig.returnType = some .int)  {cp k n : Nat} (hch : g_chg N ad0 ln0 ad ln cp) {A : gM} {x1 : Int32} {x2 : Int32} (h : mX6_typeTold_b0 N cp k n A x1 x2 = some (A', u, r)) : gJ p l e (g_rmx 1513 u.2.1 u.2.2) s m args below meth c (gEAi below D g N ad0 ln0 A0 A' u r args s) 9 D g (va_A (gw g ad0 ln0 A0 N) s.heap.size) N ad ln A [(0, gr 183), (1, gi x1), (2, gi x2)] k n 0 [] := by
  have hkn := oX6_typeTold_b0 h
  unfold mX6_typeTold_b0 at h
  refine g_aload_n C 0 dX6_typeTold_0 rfl ?_
  refine g_iload_n C 1 dX6_typeTold_1 rfl ?_
  obtain ⟨q1, eq1, h⟩ := g_bd h
  have mo := oX6_typeTold_b5 h
  refine g_callAiV C 183 [gi x1] (kX6_typeOf hN hch.2 eq1) qs_X6_173 (by omega) (by omega) rfl rfl rfl rfl (Nat.le_of_ble_eq_true rfl) ⟨mo.1, mo.2⟩ (And.intro ⟨by omega, by omega⟩ True.intro) True.intro dX6_typeTold_2 (fun ad1 ln1 hch1 => ?_)
  have hch := g_chg.trans (by omega) hch hch1
  refine g_sub [0, 1, 2] rfl ?_
  exact wX6_typeTold_b5 hN C hr hch h

set_option maxHeartbeats 2000000 in
set_option maxRecDepth 20000 in
theorem kX6_typeTold {l : Launch} {D : va_G} {g : gT} {N : Nat} (hN : 193 ≤ N) {ad ln : Nat → Nat} {cp : Nat} (hcp : g_cap ln cp) {A A' : gM} {x1 : Int32} {x2 : Int32} {u : Nat × Nat × Nat} {r : Int32} (h : mX6_typeTold N cp A x1 x2 = some (A', u, r)) : gAi l yX6_typeTold cX6_typeTold 9 (some .int) (1513) D g N ad ln A [gr 183, gi x1, gi x2] A' u r := by
  refine g_metAi (by decide) (Nat.le_of_ble_eq_true rfl) ?_
  intro p e s m args below meth c C hr
  refine g_sub [0, 1, 2] rfl ?_
  exact wX6_typeTold_b0 hN C hr (g_chg.rf hcp) h
def mX6_type_b36 (N cp k n : Nat) (A : gM) (s0 : Int32) : Option (gM × (Nat × Nat × Nat) × Int32) :=
  some (A, (cp, k, n), s0)
def mX6_type_b31 (N cp k n : Nat) (A : gM) : Option (gM × (Nat × Nat × Nat) × Int32) :=
  (mX6_fail cp A 1).bind fun q1 =>
  mX6_type_b36 N cp k n q1.1 q1.2
def mX6_type_b28 (N cp k n : Nat) (A : gM) (s0 : Int32) : Option (gM × (Nat × Nat × Nat) × Int32) :=
  mX6_type_b36 N cp k n A s0
def mX6_type_b0 (N cp k n : Nat) (A : gM) (x1 : Int32) (x2 : Int32) : Option (gM × (Nat × Nat × Nat) × Int32) :=
  g_let (g_up A 183 0 0) fun A1 =>
  (mX6_isPart cp A1 x1).bind fun q2 =>
  if q2.2 = 0 then
  mX6_type_b31 N cp k n q2.1
  else
  (mX6_isIn cp q2.1 x2 0 4).bind fun q4 =>
  if q4.2 = 0 then
  mX6_type_b31 N cp k n q4.1
  else
  (mX6_typeTold N cp q4.1 x1 x2).bind fun q6 =>
  mX6_type_b28 N q6.2.1.1 (k + q6.2.1.2.1) (n + q6.2.1.2.2) q6.1 q6.2.2
def mX6_type (N cp : Nat) (A : gM) (x1 : Int32) (x2 : Int32) : Option (gM × (Nat × Nat × Nat) × Int32) := mX6_type_b0 N cp 0 0 A x1 x2
set_option maxHeartbeats 2000000 in
set_option maxRecDepth 20000 in
theorem oX6_type_b36 {N : Nat} {A' : gM} {u : Nat × Nat × Nat} {r : Int32}  {cp k n : Nat} {A : gM} {s0 : Int32} (h : mX6_type_b36 N cp k n A s0 = some (A', u, r)) : k ≤ u.2.1 ∧ n ≤ u.2.2 := by
  unfold mX6_type_b36 at h
  obtain ⟨rfl, h2⟩ := Prod.mk.inj (Option.some.inj h)
  obtain ⟨rfl, rfl⟩ := Prod.mk.inj h2
  exact ⟨Nat.le_refl _, Nat.le_refl _⟩

set_option maxHeartbeats 2000000 in
set_option maxRecDepth 20000 in
theorem wX6_type_b36 (hN : 193 ≤ N)  {A0 A' : gM} {u : Nat × Nat × Nat} {r : Int32} (C : gC p (g_rmx 1514 u.2.1 u.2.2) s m args meth c cX6_type RX6 3 D g (va_A (gw g ad0 ln0 A0 N) s.heap.size) 1514) (hr : meth.sig.returnType = some .int)  {cp k n : Nat} (hch : g_chg N ad0 ln0 ad ln cp) {A : gM} {s0 : Int32} (h : mX6_type_b36 N cp k n A s0 = some (A', u, r)) : gJ p l e (g_rmx 1514 u.2.1 u.2.2) s m args below meth c (gEAi below D g N ad0 ln0 A0 A' u r args s) 3 D g (va_A (gw g ad0 ln0 A0 N) s.heap.size) N ad ln A [] k n 36 [gi s0] := by
  have hkn := oX6_type_b36 h
  unfold mX6_type_b36 at h
  obtain ⟨rfl, h2⟩ := Prod.mk.inj (Option.some.inj h)
  obtain ⟨rfl, rfl⟩ := Prod.mk.inj h2
  exact g_retAi C hch hr dX6_type_36

set_option maxHeartbeats 2000000 in
set_option maxRecDepth 20000 in
theorem oX6_type_b31 {N : Nat} {A' : gM} {u : Nat × Nat × Nat} {r : Int32}  {cp k n : Nat} {A : gM} (h : mX6_type_b31 N cp k n A = some (A', u, r)) : k ≤ u.2.1 ∧ n ≤ u.2.2 := by
  unfold mX6_type_b31 at h
  obtain ⟨q1, eq1, h⟩ := g_bd h
  exact oX6_type_b36 h

set_option maxHeartbeats 2000000 in
set_option maxRecDepth 20000 in
theorem wX6_type_b31 (hN : 193 ≤ N)  {A0 A' : gM} {u : Nat × Nat × Nat} {r : Int32} (C : gC p (g_rmx 1514 u.2.1 u.2.2) s m args meth c cX6_type RX6 3 D g (va_A (gw g ad0 ln0 A0 N) s.heap.size) 1514) (hr : meth.sig.returnType = some .int)  {cp k n : Nat} (hch : g_chg N ad0 ln0 ad ln cp) {A : gM} (h : mX6_type_b31 N cp k n A = some (A', u, r)) : gJ p l e (g_rmx 1514 u.2.1 u.2.2) s m args below meth c (gEAi below D g N ad0 ln0 A0 A' u r args s) 3 D g (va_A (gw g ad0 ln0 A0 N) s.heap.size) N ad ln A [(0, gr 183)] k n 31 [] := by
  have hkn := oX6_type_b31 h
  unfold mX6_type_b31 at h
  refine g_aload_n C 0 dX6_type_31 rfl ?_
  refine g_iconst (v := 1) C dX6_type_32 (by decide) ?_
  obtain ⟨q1, eq1, h⟩ := g_bd h
  refine g_calliV C 183 [gi 1] (kX6_fail hN hch.2 eq1) qs_X6_60 (by omega) (by omega) rfl rfl rfl rfl (Nat.le_of_ble_eq_true rfl) hkn dX6_type_33 ?_
  refine g_sub [] rfl ?_
  exact wX6_type_b36 hN C hr hch h

set_option maxHeartbeats 2000000 in
set_option maxRecDepth 20000 in
theorem oX6_type_b28 {N : Nat} {A' : gM} {u : Nat × Nat × Nat} {r : Int32}  {cp k n : Nat} {A : gM} {s0 : Int32} (h : mX6_type_b28 N cp k n A s0 = some (A', u, r)) : k ≤ u.2.1 ∧ n ≤ u.2.2 := by
  unfold mX6_type_b28 at h
  exact oX6_type_b36 h

set_option maxHeartbeats 2000000 in
set_option maxRecDepth 20000 in
theorem wX6_type_b28 (hN : 193 ≤ N)  {A0 A' : gM} {u : Nat × Nat × Nat} {r : Int32} (C : gC p (g_rmx 1514 u.2.1 u.2.2) s m args meth c cX6_type RX6 3 D g (va_A (gw g ad0 ln0 A0 N) s.heap.size) 1514) (hr : meth.sig.returnType = some .int)  {cp k n : Nat} (hch : g_chg N ad0 ln0 ad ln cp) {A : gM} {s0 : Int32} (h : mX6_type_b28 N cp k n A s0 = some (A', u, r)) : gJ p l e (g_rmx 1514 u.2.1 u.2.2) s m args below meth c (gEAi below D g N ad0 ln0 A0 A' u r args s) 3 D g (va_A (gw g ad0 ln0 A0 N) s.heap.size) N ad ln A [] k n 28 [gi s0] := by
  have hkn := oX6_type_b28 h
  unfold mX6_type_b28 at h
  refine g_goto C dX6_type_28 (tgt := 36) (by decide) ?_
  refine g_sub [] rfl ?_
  exact wX6_type_b36 hN C hr hch h

set_option maxHeartbeats 2000000 in
set_option maxRecDepth 20000 in
theorem oX6_type_b0 {N : Nat} {A' : gM} {u : Nat × Nat × Nat} {r : Int32}  {cp k n : Nat} {A : gM} {x1 : Int32} {x2 : Int32} (h : mX6_type_b0 N cp k n A x1 x2 = some (A', u, r)) : k ≤ u.2.1 ∧ n ≤ u.2.2 := by
  unfold mX6_type_b0 at h
  obtain ⟨A1, eA1, h⟩ := g_lt h
  obtain ⟨q2, eq2, h⟩ := g_bd h
  by_cases c3 : q2.2 = 0
  · have h := g_tt c3 h
    exact oX6_type_b31 h
  · have h := g_ff c3 h
    obtain ⟨q4, eq4, h⟩ := g_bd h
    by_cases c5 : q4.2 = 0
    · have h := g_tt c5 h
      exact oX6_type_b31 h
    · have h := g_ff c5 h
      obtain ⟨q6, eq6, h⟩ := g_bd h
      have mo := oX6_type_b28 h
      exact ⟨by omega, by omega⟩

set_option maxHeartbeats 2000000 in
set_option maxRecDepth 20000 in
theorem wX6_type_b0 (hN : 193 ≤ N)  {A0 A' : gM} {u : Nat × Nat × Nat} {r : Int32} (C : gC p (g_rmx 1514 u.2.1 u.2.2) s m args meth c cX6_type RX6 3 D g (va_A (gw g ad0 ln0 A0 N) s.heap.size) 1514) (hr : meth.sig.returnType = some .int)  {cp k n : Nat} (hch : g_chg N ad0 ln0 ad ln cp) {A : gM} {x1 : Int32} {x2 : Int32} (h : mX6_type_b0 N cp k n A x1 x2 = some (A', u, r)) : gJ p l e (g_rmx 1514 u.2.1 u.2.2) s m args below meth c (gEAi below D g N ad0 ln0 A0 A' u r args s) 3 D g (va_A (gw g ad0 ln0 A0 N) s.heap.size) N ad ln A [(0, gr 183), (1, gi x1), (2, gi x2)] k n 0 [] := by
  have hkn := oX6_type_b0 h
  unfold mX6_type_b0 at h
  refine g_aload_n C 0 dX6_type_0 rfl ?_
  refine g_iconst (v := 0) C dX6_type_1 (by decide) ?_
  obtain ⟨A1, eA1, h⟩ := g_lt h
  refine g_put C 183 0 tyX6 tyX6_ok nmX6 (by omega) rfl rfl gu_6 (by decide) qf_X6_35 rfl (by decide +kernel) (Nat.le_of_ble_eq_true rfl) rfl eA1 dX6_type_2 ?_
  refine g_aload_n C 0 dX6_type_5 rfl ?_
  refine g_iload_n C 1 dX6_type_6 rfl ?_
  obtain ⟨q2, eq2, h⟩ := g_bd h
  refine g_calliV C 183 [gi x1] (kX6_isPart hN hch.2 eq2) qs_X6_75 (by omega) (by omega) rfl rfl rfl rfl (Nat.le_of_ble_eq_true rfl) hkn dX6_type_7 ?_
  refine g_if_eq C dX6_type_10 (tgt := 31) (by decide) (fun c3 => ?_) (fun c3 => ?_)
  · have h := g_tt c3 h
    refine g_sub [0] rfl ?_
    exact wX6_type_b31 hN C hr hch h
  · have h := g_ff c3 h
    refine g_iload_n C 2 dX6_type_13 rfl ?_
    refine g_iconst (v := 0) C dX6_type_14 (by decide) ?_
    refine g_iconst (v := 4) C dX6_type_15 (by decide) ?_
    obtain ⟨q4, eq4, h⟩ := g_bd h
    refine g_calliS C [gi x2, gi 0, gi 4] (kX6_isIn hN hch.2 eq4) qs_X6_42 (by omega) rfl rfl (Nat.le_of_ble_eq_true rfl) hkn dX6_type_16 ?_
    refine g_if_eq C dX6_type_19 (tgt := 31) (by decide) (fun c5 => ?_) (fun c5 => ?_)
    · have h := g_tt c5 h
      refine g_sub [0] rfl ?_
      exact wX6_type_b31 hN C hr hch h
    · have h := g_ff c5 h
      refine g_aload_n C 0 dX6_type_22 rfl ?_
      refine g_iload_n C 1 dX6_type_23 rfl ?_
      refine g_iload_n C 2 dX6_type_24 rfl ?_
      obtain ⟨q6, eq6, h⟩ := g_bd h
      have mo := oX6_type_b28 h
      refine g_callAiV C 183 [gi x1, gi x2] (kX6_typeTold hN hch.2 eq6) qs_X6_192 (by omega) (by omega) rfl rfl rfl rfl (Nat.le_of_ble_eq_true rfl) ⟨mo.1, mo.2⟩ (And.intro ⟨by omega, by omega⟩ True.intro) True.intro dX6_type_25 (fun ad1 ln1 hch1 => ?_)
      have hch := g_chg.trans (by omega) hch hch1
      refine g_sub [] rfl ?_
      exact wX6_type_b28 hN C hr hch h

set_option maxHeartbeats 2000000 in
set_option maxRecDepth 20000 in
theorem kX6_type {l : Launch} {D : va_G} {g : gT} {N : Nat} (hN : 193 ≤ N) {ad ln : Nat → Nat} {cp : Nat} (hcp : g_cap ln cp) {A A' : gM} {x1 : Int32} {x2 : Int32} {u : Nat × Nat × Nat} {r : Int32} (h : mX6_type N cp A x1 x2 = some (A', u, r)) : gAi l yX6_type cX6_type 3 (some .int) (1514) D g N ad ln A [gr 183, gi x1, gi x2] A' u r := by
  refine g_metAi (by decide) (Nat.le_of_ble_eq_true rfl) ?_
  intro p e s m args below meth c C hr
  refine g_sub [0, 1, 2] rfl ?_
  exact wX6_type_b0 hN C hr (g_chg.rf hcp) h
def mX6_code_b48 (N cp k n : Nat) (A : gM) (s0 : Int32) : Option (gM × (Nat × Nat × Nat) × Int32) :=
  some (A, (cp, k, n), s0)
def mX6_code_b24 (N cp k n : Nat) (A : gM) (x2 : Int32) (ws0 : Nat) : Option (gM × (Nat × Nat × Nat) × Int32) :=
  (mX6_isIn cp A x2 0 ((Int32.ofNat ws0) - 1)).bind fun q1 =>
  if q1.2 = 0 then
  (mX6_fail cp q1.1 1).bind fun q3 =>
  mX6_code_b48 N cp k n q3.1 q3.2
  else
  if g_in x2 ws0 = true then
  mX6_code_b48 N cp k n q1.1 (q1.1 N x2.toNatClampNeg)
  else none
def mX6_code_b0 (N cp k n : Nat) (A : gM) (x1 : Int32) (x2 : Int32) : Option (gM × (Nat × Nat × Nat) × Int32) :=
  g_let (g_up A 183 0 0) fun A1 =>
  (mX6_isPart cp A1 x1).bind fun q2 =>
  if q2.2 = 0 then
  (mX6_fail cp q2.1 1).bind fun q5 =>
  some (q5.1, (cp, k, n), q5.2)
  else
  (mX6_row N cp q2.1 x1).bind fun q4 =>
  mX6_code_b24 N q4.2.1.1 (k + q4.2.1.2.1) (n + q4.2.1.2.2) q4.1 x2 q4.2.2
def mX6_code (N cp : Nat) (A : gM) (x1 : Int32) (x2 : Int32) : Option (gM × (Nat × Nat × Nat) × Int32) := mX6_code_b0 N cp 0 0 A x1 x2
set_option maxHeartbeats 2000000 in
set_option maxRecDepth 20000 in
theorem oX6_code_b48 {N : Nat} {A' : gM} {u : Nat × Nat × Nat} {r : Int32}  {cp k n : Nat} {A : gM} {s0 : Int32} (h : mX6_code_b48 N cp k n A s0 = some (A', u, r)) : k ≤ u.2.1 ∧ n ≤ u.2.2 := by
  unfold mX6_code_b48 at h
  obtain ⟨rfl, h2⟩ := Prod.mk.inj (Option.some.inj h)
  obtain ⟨rfl, rfl⟩ := Prod.mk.inj h2
  exact ⟨Nat.le_refl _, Nat.le_refl _⟩

set_option maxHeartbeats 2000000 in
set_option maxRecDepth 20000 in
theorem wX6_code_b48 (hN : 193 ≤ N)  {A0 A' : gM} {u : Nat × Nat × Nat} {r : Int32} (C : gC p (g_rmx 1513 u.2.1 u.2.2) s m args meth c cX6_code RX6 4 D g (va_A (gw g ad0 ln0 A0 N) s.heap.size) 1513) (hr : meth.sig.returnType = some .int)  {cp k n : Nat} (hch : g_chg N ad0 ln0 ad ln cp) {A : gM} {s0 : Int32} (h : mX6_code_b48 N cp k n A s0 = some (A', u, r)) : gJ p l e (g_rmx 1513 u.2.1 u.2.2) s m args below meth c (gEAi below D g N ad0 ln0 A0 A' u r args s) 4 D g (va_A (gw g ad0 ln0 A0 N) s.heap.size) (N + 1) ad ln A [] k n 48 [gi s0] := by
  have hkn := oX6_code_b48 h
  unfold mX6_code_b48 at h
  obtain ⟨rfl, h2⟩ := Prod.mk.inj (Option.some.inj h)
  obtain ⟨rfl, rfl⟩ := Prod.mk.inj h2
  refine g_drop ?_
  exact g_retAi C hch hr dX6_code_48

set_option maxHeartbeats 2000000 in
set_option maxRecDepth 20000 in
theorem oX6_code_b24 {N : Nat} {A' : gM} {u : Nat × Nat × Nat} {r : Int32}  {cp k n : Nat} {A : gM} {x2 : Int32} {ws0 : Nat} (h : mX6_code_b24 N cp k n A x2 ws0 = some (A', u, r)) : k ≤ u.2.1 ∧ n ≤ u.2.2 := by
  unfold mX6_code_b24 at h
  obtain ⟨q1, eq1, h⟩ := g_bd h
  by_cases c2 : q1.2 = 0
  · have h := g_tt c2 h
    obtain ⟨q3, eq3, h⟩ := g_bd h
    exact oX6_code_b48 h
  · have h := g_ff c2 h
    obtain ⟨hg4, h⟩ := g_gd h
    exact oX6_code_b48 h

set_option maxHeartbeats 2000000 in
set_option maxRecDepth 20000 in
theorem wX6_code_b24 (hN : 193 ≤ N)  {A0 A' : gM} {u : Nat × Nat × Nat} {r : Int32} (C : gC p (g_rmx 1513 u.2.1 u.2.2) s m args meth c cX6_code RX6 4 D g (va_A (gw g ad0 ln0 A0 N) s.heap.size) 1513) (hr : meth.sig.returnType = some .int)  {cp k n : Nat} (hch : g_chg N ad0 ln0 ad ln cp) {A : gM} {x2 : Int32} {ws0 : Nat} (hws0 : g_ln ln N = ws0) (h : mX6_code_b24 N cp k n A x2 ws0 = some (A', u, r)) : gJ p l e (g_rmx 1513 u.2.1 u.2.2) s m args below meth c (gEAi below D g N ad0 ln0 A0 A' u r args s) 4 D g (va_A (gw g ad0 ln0 A0 N) s.heap.size) (N + 1) ad ln A [(0, gr 183), (2, gi x2)] k n 24 [gr N] := by
  have hkn := oX6_code_b24 h
  unfold mX6_code_b24 at h
  refine g_astore_n C dX6_code_24 (by decide) rfl ?_
  refine g_iload_n C 2 dX6_code_25 rfl ?_
  refine g_iconst (v := 0) C dX6_code_26 (by decide) ?_
  refine g_aload_n C 0 dX6_code_27 rfl ?_
  refine g_alen (v := Int32.ofNat ws0) C N (by omega) (g_isI_big (by omega)) (by rw [hws0]) dX6_code_28 ?_
  refine g_iconst (v := 1) C dX6_code_29 (by decide) ?_
  refine g_isub C dX6_code_30 ?_
  obtain ⟨q1, eq1, h⟩ := g_bd h
  refine g_calliS C [gi x2, gi 0, gi ((Int32.ofNat ws0) - 1)] (kX6_isIn (by omega) hch.2 eq1) qs_X6_42 (by omega) rfl rfl (Nat.le_of_ble_eq_true rfl) hkn dX6_code_31 ?_
  refine g_if_eq C dX6_code_34 (tgt := 43) (by decide) (fun c2 => ?_) (fun c2 => ?_)
  · have h := g_tt c2 h
    refine g_aload_n C 1 dX6_code_43 rfl ?_
    refine g_iconst (v := 1) C dX6_code_44 (by decide) ?_
    obtain ⟨q3, eq3, h⟩ := g_bd h
    refine g_calliV C 183 [gi 1] (kX6_fail (by omega) hch.2 eq3) qs_X6_60 (by omega) (by omega) rfl rfl rfl rfl (Nat.le_of_ble_eq_true rfl) hkn dX6_code_45 ?_
    refine g_sub [] rfl ?_
    exact wX6_code_b48 hN C hr hch h
  · have h := g_ff c2 h
    refine g_aload_n C 0 dX6_code_37 rfl ?_
    refine g_iload_n C 2 dX6_code_38 rfl ?_
    obtain ⟨hg4, h⟩ := g_gd h
    refine g_iald C N (by omega) (g_isI_big (by omega)) hws0 hg4 dX6_code_39 ?_
    refine g_goto C dX6_code_40 (tgt := 48) (by decide) ?_
    refine g_sub [] rfl ?_
    exact wX6_code_b48 hN C hr hch h

set_option maxHeartbeats 2000000 in
set_option maxRecDepth 20000 in
theorem oX6_code_b0 {N : Nat} {A' : gM} {u : Nat × Nat × Nat} {r : Int32}  {cp k n : Nat} {A : gM} {x1 : Int32} {x2 : Int32} (h : mX6_code_b0 N cp k n A x1 x2 = some (A', u, r)) : k ≤ u.2.1 ∧ n ≤ u.2.2 := by
  unfold mX6_code_b0 at h
  obtain ⟨A1, eA1, h⟩ := g_lt h
  obtain ⟨q2, eq2, h⟩ := g_bd h
  by_cases c3 : q2.2 = 0
  · have h := g_tt c3 h
    obtain ⟨q5, eq5, h⟩ := g_bd h
    obtain ⟨rfl, h2⟩ := Prod.mk.inj (Option.some.inj h)
    obtain ⟨rfl, rfl⟩ := Prod.mk.inj h2
    exact ⟨Nat.le_refl _, Nat.le_refl _⟩
  · have h := g_ff c3 h
    obtain ⟨q4, eq4, h⟩ := g_bd h
    have mo := oX6_code_b24 h
    exact ⟨by omega, by omega⟩

set_option maxHeartbeats 2000000 in
set_option maxRecDepth 20000 in
theorem wX6_code_b0 (hN : 193 ≤ N)  {A0 A' : gM} {u : Nat × Nat × Nat} {r : Int32} (C : gC p (g_rmx 1513 u.2.1 u.2.2) s m args meth c cX6_code RX6 4 D g (va_A (gw g ad0 ln0 A0 N) s.heap.size) 1513) (hr : meth.sig.returnType = some .int)  {cp k n : Nat} (hch : g_chg N ad0 ln0 ad ln cp) {A : gM} {x1 : Int32} {x2 : Int32} (h : mX6_code_b0 N cp k n A x1 x2 = some (A', u, r)) : gJ p l e (g_rmx 1513 u.2.1 u.2.2) s m args below meth c (gEAi below D g N ad0 ln0 A0 A' u r args s) 4 D g (va_A (gw g ad0 ln0 A0 N) s.heap.size) N ad ln A [(0, gr 183), (1, gi x1), (2, gi x2)] k n 0 [] := by
  have hkn := oX6_code_b0 h
  unfold mX6_code_b0 at h
  refine g_aload_n C 0 dX6_code_0 rfl ?_
  refine g_iconst (v := 0) C dX6_code_1 (by decide) ?_
  obtain ⟨A1, eA1, h⟩ := g_lt h
  refine g_put C 183 0 tyX6 tyX6_ok nmX6 (by omega) rfl rfl gu_6 (by decide) qf_X6_35 rfl (by decide +kernel) (Nat.le_of_ble_eq_true rfl) rfl eA1 dX6_code_2 ?_
  refine g_aload_n C 0 dX6_code_5 rfl ?_
  refine g_iload_n C 1 dX6_code_6 rfl ?_
  obtain ⟨q2, eq2, h⟩ := g_bd h
  refine g_calliV C 183 [gi x1] (kX6_isPart hN hch.2 eq2) qs_X6_75 (by omega) (by omega) rfl rfl rfl rfl (Nat.le_of_ble_eq_true rfl) hkn dX6_code_7 ?_
  refine g_if_ne C dX6_code_10 (tgt := 19) (by decide) (fun c3 => ?_) (fun c3 => ?_)
  · have h := g_ff c3 h
    refine g_aload_n C 0 dX6_code_19 rfl ?_
    refine g_iload_n C 1 dX6_code_20 rfl ?_
    obtain ⟨q4, eq4, h⟩ := g_bd h
    have mo := oX6_code_b24 h
    refine g_callArV C 183 [gi x1] (kX6_row hN hch.2 eq4) qs_X6_188 (by omega) (by omega) rfl rfl rfl rfl (Nat.le_of_ble_eq_true rfl) ⟨mo.1, mo.2⟩ (And.intro ⟨by omega, by omega⟩ True.intro) True.intro dX6_code_21 (fun ad1 ln1 hch1 hlw => ?_)
    have hch := g_chg.trans (by omega) hch hch1
    refine g_sub [0, 2] rfl ?_
    exact wX6_code_b24 hN C hr hch ((g_ln_big (by omega)).trans hlw) h
  · have h := g_tt c3 h
    refine g_aload_n C 0 dX6_code_13 rfl ?_
    refine g_iconst (v := 1) C dX6_code_14 (by decide) ?_
    obtain ⟨q5, eq5, h⟩ := g_bd h
    refine g_calliV C 183 [gi 1] (kX6_fail hN hch.2 eq5) qs_X6_60 (by omega) (by omega) rfl rfl rfl rfl (Nat.le_of_ble_eq_true rfl) hkn dX6_code_15 ?_
    obtain ⟨rfl, h2⟩ := Prod.mk.inj (Option.some.inj h)
    obtain ⟨rfl, rfl⟩ := Prod.mk.inj h2
    exact g_retAi C hch hr dX6_code_18

set_option maxHeartbeats 2000000 in
set_option maxRecDepth 20000 in
theorem kX6_code {l : Launch} {D : va_G} {g : gT} {N : Nat} (hN : 193 ≤ N) {ad ln : Nat → Nat} {cp : Nat} (hcp : g_cap ln cp) {A A' : gM} {x1 : Int32} {x2 : Int32} {u : Nat × Nat × Nat} {r : Int32} (h : mX6_code N cp A x1 x2 = some (A', u, r)) : gAi l yX6_code cX6_code 4 (some .int) (1513) D g N ad ln A [gr 183, gi x1, gi x2] A' u r := by
  refine g_metAi (by decide) (Nat.le_of_ble_eq_true rfl) ?_
  intro p e s m args below meth c C hr
  refine g_sub [0, 1, 2] rfl ?_
  exact wX6_code_b0 hN C hr (g_chg.rf hcp) h
def mX6_counted_b42 (N cp k n : Nat) (K4 : Nat → Nat → Nat → gM → Int32 → Int32 → Int32 → Option (gM × (Nat × Nat × Nat) × Int32)) (A : gM) (x1 : Int32) (x3 : Int32) (s0 : Int32) (s1 : Int32) : Option (gM × (Nat × Nat × Nat) × Int32) :=
  g_let (s0 + s1) fun v1 =>
  g_let (x3 + 1) fun v2 =>
  K4 cp k n A x1 v1 v2
def mX6_counted_b37 (N cp k n : Nat) (K4 : Nat → Nat → Nat → gM → Int32 → Int32 → Int32 → Option (gM × (Nat × Nat × Nat) × Int32)) (A : gM) (x1 : Int32) (x3 : Int32) (s0 : Int32) : Option (gM × (Nat × Nat × Nat) × Int32) :=
  mX6_counted_b42 N cp k n K4 A x1 x3 s0 1
def mX6_counted_b22 (N cp k n : Nat) (K4 : Nat → Nat → Nat → gM → Int32 → Int32 → Int32 → Option (gM × (Nat × Nat × Nat) × Int32)) (A : gM) (x1 : Int32) (x2 : Int32) (x3 : Int32) : Option (gM × (Nat × Nat × Nat) × Int32) :=
  if x1 = 0 then
  mX6_counted_b37 N cp k n K4 A x1 x3 x2
  else
  if (A 183 12) = (x1 - 1) then
  mX6_counted_b37 N cp k n K4 A x1 x3 x2
  else
  mX6_counted_b42 N cp k n K4 A x1 x3 x2 0
def mX6_counted_b21 (N cp k n : Nat) (K4 : Nat → Nat → Nat → gM → Int32 → Int32 → Int32 → Option (gM × (Nat × Nat × Nat) × Int32)) (A : gM) (x1 : Int32) (x2 : Int32) (x3 : Int32) (s0 : Int32) : Option (gM × (Nat × Nat × Nat) × Int32) :=
  mX6_counted_b22 N cp k n K4 A x1 x2 x3
def mX6_counted_b4 (N cp k n : Nat) (K4 : Nat → Nat → Nat → gM → Int32 → Int32 → Int32 → Option (gM × (Nat × Nat × Nat) × Int32)) (A : gM) (x1 : Int32) (x2 : Int32) (x3 : Int32) : Option (gM × (Nat × Nat × Nat) × Int32) :=
  if (A 183 1) ≤ x3 then
  some (A, (cp, k, n), x2)
  else
  if x1 ≤ 0 then
  mX6_counted_b22 N cp k n K4 A x1 x2 x3
  else
  (mX6_typeOf N cp A x3).bind fun q3 =>
  mX6_counted_b21 N q3.2.1.1 (k + q3.2.1.2.1) (n + q3.2.1.2.2) K4 q3.1 x1 x2 x3 q3.2.2
def mX6_counted_L4 (N : Nat) : Nat → Nat → Nat → Nat → gM → Int32 → Int32 → Int32 → Option (gM × (Nat × Nat × Nat) × Int32)
  | 0 => fun _ _ _ _ _ _ _ => none
  | f + 1 => fun cp k n => mX6_counted_b4 N cp k n (mX6_counted_L4 N f)
def mX6_counted_b0 (N cp k n : Nat) (A : gM) (x1 : Int32) : Option (gM × (Nat × Nat × Nat) × Int32) :=
  mX6_counted_L4 N gF cp k n A x1 0 0
def mX6_counted (N cp : Nat) (A : gM) (x1 : Int32) : Option (gM × (Nat × Nat × Nat) × Int32) := mX6_counted_b0 N cp 0 0 A x1
set_option maxHeartbeats 2000000 in
set_option maxRecDepth 20000 in
theorem oX6_counted_b42 {N : Nat} {A' : gM} {u : Nat × Nat × Nat} {r : Int32} {K4 : Nat → Nat → Nat → gM → Int32 → Int32 → Int32 → Option (gM × (Nat × Nat × Nat) × Int32)} (oK4 : ∀ {cp k n : Nat} {A : gM} {x1 : Int32} {x2 : Int32} {x3 : Int32}, K4 cp k n A x1 x2 x3 = some (A', u, r) → k ≤ u.2.1 ∧ n ≤ u.2.2) {cp k n : Nat} {A : gM} {x1 : Int32} {x3 : Int32} {s0 : Int32} {s1 : Int32} (h : mX6_counted_b42 N cp k n K4 A x1 x3 s0 s1 = some (A', u, r)) : k ≤ u.2.1 ∧ n ≤ u.2.2 := by
  unfold mX6_counted_b42 at h
  obtain ⟨v1, ev1, h⟩ := g_lt h
  obtain ⟨v2, ev2, h⟩ := g_lt h
  exact oK4 h

set_option maxHeartbeats 2000000 in
set_option maxRecDepth 20000 in
theorem wX6_counted_b42 (hN : 193 ≤ N)  {A0 A' : gM} {u : Nat × Nat × Nat} {r : Int32} (C : gC p (g_rmx 1512 u.2.1 u.2.2) s m args meth c cX6_counted RX6 4 D g (va_A (gw g ad0 ln0 A0 N) s.heap.size) 1512) (hr : meth.sig.returnType = some .int) {K4 : Nat → Nat → Nat → gM → Int32 → Int32 → Int32 → Option (gM × (Nat × Nat × Nat) × Int32)} (hK4 : ∀ {ad ln : Nat → Nat} {cp k n : Nat} (_ : g_chg N ad0 ln0 ad ln cp) {A : gM} {x1 : Int32} {x2 : Int32} {x3 : Int32}, K4 cp k n A x1 x2 x3 = some (A', u, r) → gJ p l e (g_rmx 1512 u.2.1 u.2.2) s m args below meth c (gEAi below D g N ad0 ln0 A0 A' u r args s) 4 D g (va_A (gw g ad0 ln0 A0 N) s.heap.size) N ad ln A [(0, gr 183), (1, gi x1), (2, gi x2), (3, gi x3)] k n 4 []) (oK4 : ∀ {cp k n : Nat} {A : gM} {x1 : Int32} {x2 : Int32} {x3 : Int32}, K4 cp k n A x1 x2 x3 = some (A', u, r) → k ≤ u.2.1 ∧ n ≤ u.2.2) {cp k n : Nat} (hch : g_chg N ad0 ln0 ad ln cp) {A : gM} {x1 : Int32} {x3 : Int32} {s0 : Int32} {s1 : Int32} (h : mX6_counted_b42 N cp k n K4 A x1 x3 s0 s1 = some (A', u, r)) : gJ p l e (g_rmx 1512 u.2.1 u.2.2) s m args below meth c (gEAi below D g N ad0 ln0 A0 A' u r args s) 4 D g (va_A (gw g ad0 ln0 A0 N) s.heap.size) N ad ln A [(0, gr 183), (1, gi x1), (3, gi x3)] k n 42 [gi s1, gi s0] := by
  have hkn := oX6_counted_b42 oK4 h
  unfold mX6_counted_b42 at h
  refine g_iadd C dX6_counted_42 ?_
  obtain ⟨v1, ev1, h⟩ := g_lt h
  refine g_topi ev1 ?_
  refine g_istore_n C dX6_counted_43 (by decide) rfl ?_
  obtain ⟨v2, ev2, h⟩ := g_lt h
  refine g_iinc C 3 dX6_counted_44 rfl ev2 (by decide) rfl ?_
  refine g_goto C dX6_counted_47 (tgt := 4) (by decide) ?_
  refine g_sub [2, 3, 1, 0] rfl ?_
  exact hK4 hch h

set_option maxHeartbeats 2000000 in
set_option maxRecDepth 20000 in
theorem oX6_counted_b37 {N : Nat} {A' : gM} {u : Nat × Nat × Nat} {r : Int32} {K4 : Nat → Nat → Nat → gM → Int32 → Int32 → Int32 → Option (gM × (Nat × Nat × Nat) × Int32)} (oK4 : ∀ {cp k n : Nat} {A : gM} {x1 : Int32} {x2 : Int32} {x3 : Int32}, K4 cp k n A x1 x2 x3 = some (A', u, r) → k ≤ u.2.1 ∧ n ≤ u.2.2) {cp k n : Nat} {A : gM} {x1 : Int32} {x3 : Int32} {s0 : Int32} (h : mX6_counted_b37 N cp k n K4 A x1 x3 s0 = some (A', u, r)) : k ≤ u.2.1 ∧ n ≤ u.2.2 := by
  unfold mX6_counted_b37 at h
  exact oX6_counted_b42 oK4 h

set_option maxHeartbeats 2000000 in
set_option maxRecDepth 20000 in
theorem wX6_counted_b37 (hN : 193 ≤ N)  {A0 A' : gM} {u : Nat × Nat × Nat} {r : Int32} (C : gC p (g_rmx 1512 u.2.1 u.2.2) s m args meth c cX6_counted RX6 4 D g (va_A (gw g ad0 ln0 A0 N) s.heap.size) 1512) (hr : meth.sig.returnType = some .int) {K4 : Nat → Nat → Nat → gM → Int32 → Int32 → Int32 → Option (gM × (Nat × Nat × Nat) × Int32)} (hK4 : ∀ {ad ln : Nat → Nat} {cp k n : Nat} (_ : g_chg N ad0 ln0 ad ln cp) {A : gM} {x1 : Int32} {x2 : Int32} {x3 : Int32}, K4 cp k n A x1 x2 x3 = some (A', u, r) → gJ p l e (g_rmx 1512 u.2.1 u.2.2) s m args below meth c (gEAi below D g N ad0 ln0 A0 A' u r args s) 4 D g (va_A (gw g ad0 ln0 A0 N) s.heap.size) N ad ln A [(0, gr 183), (1, gi x1), (2, gi x2), (3, gi x3)] k n 4 []) (oK4 : ∀ {cp k n : Nat} {A : gM} {x1 : Int32} {x2 : Int32} {x3 : Int32}, K4 cp k n A x1 x2 x3 = some (A', u, r) → k ≤ u.2.1 ∧ n ≤ u.2.2) {cp k n : Nat} (hch : g_chg N ad0 ln0 ad ln cp) {A : gM} {x1 : Int32} {x3 : Int32} {s0 : Int32} (h : mX6_counted_b37 N cp k n K4 A x1 x3 s0 = some (A', u, r)) : gJ p l e (g_rmx 1512 u.2.1 u.2.2) s m args below meth c (gEAi below D g N ad0 ln0 A0 A' u r args s) 4 D g (va_A (gw g ad0 ln0 A0 N) s.heap.size) N ad ln A [(0, gr 183), (1, gi x1), (3, gi x3)] k n 37 [gi s0] := by
  have hkn := oX6_counted_b37 oK4 h
  unfold mX6_counted_b37 at h
  refine g_iconst (v := 1) C dX6_counted_37 (by decide) ?_
  refine g_goto C dX6_counted_38 (tgt := 42) (by decide) ?_
  refine g_sub [0, 1, 2] rfl ?_
  exact wX6_counted_b42 hN C hr hK4 oK4 hch h

set_option maxHeartbeats 2000000 in
set_option maxRecDepth 20000 in
theorem oX6_counted_b22 {N : Nat} {A' : gM} {u : Nat × Nat × Nat} {r : Int32} {K4 : Nat → Nat → Nat → gM → Int32 → Int32 → Int32 → Option (gM × (Nat × Nat × Nat) × Int32)} (oK4 : ∀ {cp k n : Nat} {A : gM} {x1 : Int32} {x2 : Int32} {x3 : Int32}, K4 cp k n A x1 x2 x3 = some (A', u, r) → k ≤ u.2.1 ∧ n ≤ u.2.2) {cp k n : Nat} {A : gM} {x1 : Int32} {x2 : Int32} {x3 : Int32} (h : mX6_counted_b22 N cp k n K4 A x1 x2 x3 = some (A', u, r)) : k ≤ u.2.1 ∧ n ≤ u.2.2 := by
  unfold mX6_counted_b22 at h
  by_cases c1 : x1 = 0
  · have h := g_tt c1 h
    exact oX6_counted_b37 oK4 h
  · have h := g_ff c1 h
    by_cases c2 : (A 183 12) = (x1 - 1)
    · have h := g_tt c2 h
      exact oX6_counted_b37 oK4 h
    · have h := g_ff c2 h
      exact oX6_counted_b42 oK4 h

set_option maxHeartbeats 2000000 in
set_option maxRecDepth 20000 in
theorem wX6_counted_b22 (hN : 193 ≤ N)  {A0 A' : gM} {u : Nat × Nat × Nat} {r : Int32} (C : gC p (g_rmx 1512 u.2.1 u.2.2) s m args meth c cX6_counted RX6 4 D g (va_A (gw g ad0 ln0 A0 N) s.heap.size) 1512) (hr : meth.sig.returnType = some .int) {K4 : Nat → Nat → Nat → gM → Int32 → Int32 → Int32 → Option (gM × (Nat × Nat × Nat) × Int32)} (hK4 : ∀ {ad ln : Nat → Nat} {cp k n : Nat} (_ : g_chg N ad0 ln0 ad ln cp) {A : gM} {x1 : Int32} {x2 : Int32} {x3 : Int32}, K4 cp k n A x1 x2 x3 = some (A', u, r) → gJ p l e (g_rmx 1512 u.2.1 u.2.2) s m args below meth c (gEAi below D g N ad0 ln0 A0 A' u r args s) 4 D g (va_A (gw g ad0 ln0 A0 N) s.heap.size) N ad ln A [(0, gr 183), (1, gi x1), (2, gi x2), (3, gi x3)] k n 4 []) (oK4 : ∀ {cp k n : Nat} {A : gM} {x1 : Int32} {x2 : Int32} {x3 : Int32}, K4 cp k n A x1 x2 x3 = some (A', u, r) → k ≤ u.2.1 ∧ n ≤ u.2.2) {cp k n : Nat} (hch : g_chg N ad0 ln0 ad ln cp) {A : gM} {x1 : Int32} {x2 : Int32} {x3 : Int32} (h : mX6_counted_b22 N cp k n K4 A x1 x2 x3 = some (A', u, r)) : gJ p l e (g_rmx 1512 u.2.1 u.2.2) s m args below meth c (gEAi below D g N ad0 ln0 A0 A' u r args s) 4 D g (va_A (gw g ad0 ln0 A0 N) s.heap.size) N ad ln A [(0, gr 183), (1, gi x1), (2, gi x2), (3, gi x3)] k n 22 [] := by
  have hkn := oX6_counted_b22 oK4 h
  unfold mX6_counted_b22 at h
  refine g_iload_n C 2 dX6_counted_22 rfl ?_
  refine g_iload_n C 1 dX6_counted_23 rfl ?_
  refine g_if_eq C dX6_counted_24 (tgt := 37) (by decide) (fun c1 => ?_) (fun c1 => ?_)
  · have h := g_tt c1 h
    refine g_sub [0, 1, 3] rfl ?_
    exact wX6_counted_b37 hN C hr hK4 oK4 hch h
  · have h := g_ff c1 h
    refine g_aload_n C 0 dX6_counted_27 rfl ?_
    refine g_get (v := gi (A 183 12)) C 183 12 (by omega) rfl rfl gu_6 (by decide) qf_X6_99 rfl dX6_counted_28 ?_
    refine g_iload_n C 1 dX6_counted_31 rfl ?_
    refine g_iconst (v := 1) C dX6_counted_32 (by decide) ?_
    refine g_isub C dX6_counted_33 ?_
    refine g_icmp_ne C dX6_counted_34 (tgt := 41) (by decide) (fun c2 => ?_) (fun c2 => ?_)
    · have h := g_ff c2 h
      refine g_iconst (v := 0) C dX6_counted_41 (by decide) ?_
      refine g_sub [0, 1, 3] rfl ?_
      exact wX6_counted_b42 hN C hr hK4 oK4 hch h
    · have h := g_tt c2 h
      refine g_sub [0, 1, 3] rfl ?_
      exact wX6_counted_b37 hN C hr hK4 oK4 hch h

set_option maxHeartbeats 2000000 in
set_option maxRecDepth 20000 in
theorem oX6_counted_b21 {N : Nat} {A' : gM} {u : Nat × Nat × Nat} {r : Int32} {K4 : Nat → Nat → Nat → gM → Int32 → Int32 → Int32 → Option (gM × (Nat × Nat × Nat) × Int32)} (oK4 : ∀ {cp k n : Nat} {A : gM} {x1 : Int32} {x2 : Int32} {x3 : Int32}, K4 cp k n A x1 x2 x3 = some (A', u, r) → k ≤ u.2.1 ∧ n ≤ u.2.2) {cp k n : Nat} {A : gM} {x1 : Int32} {x2 : Int32} {x3 : Int32} {s0 : Int32} (h : mX6_counted_b21 N cp k n K4 A x1 x2 x3 s0 = some (A', u, r)) : k ≤ u.2.1 ∧ n ≤ u.2.2 := by
  unfold mX6_counted_b21 at h
  exact oX6_counted_b22 oK4 h

set_option maxHeartbeats 2000000 in
set_option maxRecDepth 20000 in
theorem wX6_counted_b21 (hN : 193 ≤ N)  {A0 A' : gM} {u : Nat × Nat × Nat} {r : Int32} (C : gC p (g_rmx 1512 u.2.1 u.2.2) s m args meth c cX6_counted RX6 4 D g (va_A (gw g ad0 ln0 A0 N) s.heap.size) 1512) (hr : meth.sig.returnType = some .int) {K4 : Nat → Nat → Nat → gM → Int32 → Int32 → Int32 → Option (gM × (Nat × Nat × Nat) × Int32)} (hK4 : ∀ {ad ln : Nat → Nat} {cp k n : Nat} (_ : g_chg N ad0 ln0 ad ln cp) {A : gM} {x1 : Int32} {x2 : Int32} {x3 : Int32}, K4 cp k n A x1 x2 x3 = some (A', u, r) → gJ p l e (g_rmx 1512 u.2.1 u.2.2) s m args below meth c (gEAi below D g N ad0 ln0 A0 A' u r args s) 4 D g (va_A (gw g ad0 ln0 A0 N) s.heap.size) N ad ln A [(0, gr 183), (1, gi x1), (2, gi x2), (3, gi x3)] k n 4 []) (oK4 : ∀ {cp k n : Nat} {A : gM} {x1 : Int32} {x2 : Int32} {x3 : Int32}, K4 cp k n A x1 x2 x3 = some (A', u, r) → k ≤ u.2.1 ∧ n ≤ u.2.2) {cp k n : Nat} (hch : g_chg N ad0 ln0 ad ln cp) {A : gM} {x1 : Int32} {x2 : Int32} {x3 : Int32} {s0 : Int32} (h : mX6_counted_b21 N cp k n K4 A x1 x2 x3 s0 = some (A', u, r)) : gJ p l e (g_rmx 1512 u.2.1 u.2.2) s m args below meth c (gEAi below D g N ad0 ln0 A0 A' u r args s) 4 D g (va_A (gw g ad0 ln0 A0 N) s.heap.size) N ad ln A [(0, gr 183), (1, gi x1), (2, gi x2), (3, gi x3)] k n 21 [gi s0] := by
  have hkn := oX6_counted_b21 oK4 h
  unfold mX6_counted_b21 at h
  refine g_pop_i C dX6_counted_21 ?_
  refine g_sub [0, 1, 2, 3] rfl ?_
  exact wX6_counted_b22 hN C hr hK4 oK4 hch h

set_option maxHeartbeats 2000000 in
set_option maxRecDepth 20000 in
theorem oX6_counted_b4 {N : Nat} {A' : gM} {u : Nat × Nat × Nat} {r : Int32} {K4 : Nat → Nat → Nat → gM → Int32 → Int32 → Int32 → Option (gM × (Nat × Nat × Nat) × Int32)} (oK4 : ∀ {cp k n : Nat} {A : gM} {x1 : Int32} {x2 : Int32} {x3 : Int32}, K4 cp k n A x1 x2 x3 = some (A', u, r) → k ≤ u.2.1 ∧ n ≤ u.2.2) {cp k n : Nat} {A : gM} {x1 : Int32} {x2 : Int32} {x3 : Int32} (h : mX6_counted_b4 N cp k n K4 A x1 x2 x3 = some (A', u, r)) : k ≤ u.2.1 ∧ n ≤ u.2.2 := by
  unfold mX6_counted_b4 at h
  by_cases c1 : (A 183 1) ≤ x3
  · have h := g_tt c1 h
    obtain ⟨rfl, h2⟩ := Prod.mk.inj (Option.some.inj h)
    obtain ⟨rfl, rfl⟩ := Prod.mk.inj h2
    exact ⟨Nat.le_refl _, Nat.le_refl _⟩
  · have h := g_ff c1 h
    by_cases c2 : x1 ≤ 0
    · have h := g_tt c2 h
      exact oX6_counted_b22 oK4 h
    · have h := g_ff c2 h
      obtain ⟨q3, eq3, h⟩ := g_bd h
      have mo := oX6_counted_b21 oK4 h
      exact ⟨by omega, by omega⟩

set_option maxHeartbeats 2000000 in
set_option maxRecDepth 20000 in
theorem wX6_counted_b4 (hN : 193 ≤ N)  {A0 A' : gM} {u : Nat × Nat × Nat} {r : Int32} (C : gC p (g_rmx 1512 u.2.1 u.2.2) s m args meth c cX6_counted RX6 4 D g (va_A (gw g ad0 ln0 A0 N) s.heap.size) 1512) (hr : meth.sig.returnType = some .int) {K4 : Nat → Nat → Nat → gM → Int32 → Int32 → Int32 → Option (gM × (Nat × Nat × Nat) × Int32)} (hK4 : ∀ {ad ln : Nat → Nat} {cp k n : Nat} (_ : g_chg N ad0 ln0 ad ln cp) {A : gM} {x1 : Int32} {x2 : Int32} {x3 : Int32}, K4 cp k n A x1 x2 x3 = some (A', u, r) → gJ p l e (g_rmx 1512 u.2.1 u.2.2) s m args below meth c (gEAi below D g N ad0 ln0 A0 A' u r args s) 4 D g (va_A (gw g ad0 ln0 A0 N) s.heap.size) N ad ln A [(0, gr 183), (1, gi x1), (2, gi x2), (3, gi x3)] k n 4 []) (oK4 : ∀ {cp k n : Nat} {A : gM} {x1 : Int32} {x2 : Int32} {x3 : Int32}, K4 cp k n A x1 x2 x3 = some (A', u, r) → k ≤ u.2.1 ∧ n ≤ u.2.2) {cp k n : Nat} (hch : g_chg N ad0 ln0 ad ln cp) {A : gM} {x1 : Int32} {x2 : Int32} {x3 : Int32} (h : mX6_counted_b4 N cp k n K4 A x1 x2 x3 = some (A', u, r)) : gJ p l e (g_rmx 1512 u.2.1 u.2.2) s m args below meth c (gEAi below D g N ad0 ln0 A0 A' u r args s) 4 D g (va_A (gw g ad0 ln0 A0 N) s.heap.size) N ad ln A [(0, gr 183), (1, gi x1), (2, gi x2), (3, gi x3)] k n 4 [] := by
  have hkn := oX6_counted_b4 oK4 h
  unfold mX6_counted_b4 at h
  refine g_iload_n C 3 dX6_counted_4 rfl ?_
  refine g_aload_n C 0 dX6_counted_5 rfl ?_
  refine g_get (v := gi (A 183 1)) C 183 1 (by omega) rfl rfl gu_6 (by decide) qf_X6_39 rfl dX6_counted_6 ?_
  refine g_icmp_ge C dX6_counted_9 (tgt := 50) (by decide) (fun c1 => ?_) (fun c1 => ?_)
  · have h := g_tt c1 h
    refine g_iload_n C 2 dX6_counted_50 rfl ?_
    obtain ⟨rfl, h2⟩ := Prod.mk.inj (Option.some.inj h)
    obtain ⟨rfl, rfl⟩ := Prod.mk.inj h2
    exact g_retAi C hch hr dX6_counted_51
  · have h := g_ff c1 h
    refine g_iload_n C 1 dX6_counted_12 rfl ?_
    refine g_if_le C dX6_counted_13 (tgt := 22) (by decide) (fun c2 => ?_) (fun c2 => ?_)
    · have h := g_tt c2 h
      refine g_sub [0, 1, 2, 3] rfl ?_
      exact wX6_counted_b22 hN C hr hK4 oK4 hch h
    · have h := g_ff c2 h
      refine g_aload_n C 0 dX6_counted_16 rfl ?_
      refine g_iload_n C 3 dX6_counted_17 rfl ?_
      obtain ⟨q3, eq3, h⟩ := g_bd h
      have mo := oX6_counted_b21 oK4 h
      refine g_callAiV C 183 [gi x3] (kX6_typeOf hN hch.2 eq3) qs_X6_173 (by omega) (by omega) rfl rfl rfl rfl (Nat.le_of_ble_eq_true rfl) ⟨mo.1, mo.2⟩ (And.intro ⟨by omega, by omega⟩ True.intro) True.intro dX6_counted_18 (fun ad1 ln1 hch1 => ?_)
      have hch := g_chg.trans (by omega) hch hch1
      refine g_sub [0, 1, 2, 3] rfl ?_
      exact wX6_counted_b21 hN C hr hK4 oK4 hch h

set_option maxHeartbeats 2000000 in
set_option maxRecDepth 20000 in
theorem oX6_counted_L4 {N : Nat} {A' : gM} {u : Nat × Nat × Nat} {r : Int32}  : ∀ (f : Nat) {cp k n : Nat} {A : gM} {x1 : Int32} {x2 : Int32} {x3 : Int32}, mX6_counted_L4 N f cp k n A x1 x2 x3 = some (A', u, r) → k ≤ u.2.1 ∧ n ≤ u.2.2
  | 0, _, _, _, A, x1, x2, x3, h => by cases h
  | f + 1, cp, k, n, A, x1, x2, x3, h => oX6_counted_b4 (K4 := mX6_counted_L4 N f) (fun h => oX6_counted_L4 f h) h
set_option maxHeartbeats 2000000 in
set_option maxRecDepth 20000 in
theorem wX6_counted_L4 (hN : 193 ≤ N)  {A0 A' : gM} {u : Nat × Nat × Nat} {r : Int32} (C : gC p (g_rmx 1512 u.2.1 u.2.2) s m args meth c cX6_counted RX6 4 D g (va_A (gw g ad0 ln0 A0 N) s.heap.size) 1512) (hr : meth.sig.returnType = some .int)  : ∀ (f : Nat) {ad ln : Nat → Nat} {cp k n : Nat} (_ : g_chg N ad0 ln0 ad ln cp) {A : gM} {x1 : Int32} {x2 : Int32} {x3 : Int32}, mX6_counted_L4 N f cp k n A x1 x2 x3 = some (A', u, r) → gJ p l e (g_rmx 1512 u.2.1 u.2.2) s m args below meth c (gEAi below D g N ad0 ln0 A0 A' u r args s) 4 D g (va_A (gw g ad0 ln0 A0 N) s.heap.size) N ad ln A [(0, gr 183), (1, gi x1), (2, gi x2), (3, gi x3)] k n 4 []
  | 0, ad, ln, cp, k, n, hch, A, x1, x2, x3, h => by cases h
  | f + 1, ad, ln, cp, k, n, hch, A, x1, x2, x3, h => wX6_counted_b4 (K4 := mX6_counted_L4 N f) hN C hr (fun {ad ln} {cp k n} hch {A} {x1} {x2} {x3} h => wX6_counted_L4 hN C hr f hch h) (fun h => oX6_counted_L4 f h) hch h
set_option maxHeartbeats 2000000 in
set_option maxRecDepth 20000 in
theorem oX6_counted_b0 {N : Nat} {A' : gM} {u : Nat × Nat × Nat} {r : Int32}  {cp k n : Nat} {A : gM} {x1 : Int32} (h : mX6_counted_b0 N cp k n A x1 = some (A', u, r)) : k ≤ u.2.1 ∧ n ≤ u.2.2 := by
  unfold mX6_counted_b0 at h
  exact oX6_counted_L4 gF h

set_option maxHeartbeats 2000000 in
set_option maxRecDepth 20000 in
theorem wX6_counted_b0 (hN : 193 ≤ N)  {A0 A' : gM} {u : Nat × Nat × Nat} {r : Int32} (C : gC p (g_rmx 1512 u.2.1 u.2.2) s m args meth c cX6_counted RX6 4 D g (va_A (gw g ad0 ln0 A0 N) s.heap.size) 1512) (hr : meth.sig.returnType = some .int)  {cp k n : Nat} (hch : g_chg N ad0 ln0 ad ln cp) {A : gM} {x1 : Int32} (h : mX6_counted_b0 N cp k n A x1 = some (A', u, r)) : gJ p l e (g_rmx 1512 u.2.1 u.2.2) s m args below meth c (gEAi below D g N ad0 ln0 A0 A' u r args s) 4 D g (va_A (gw g ad0 ln0 A0 N) s.heap.size) N ad ln A [(0, gr 183), (1, gi x1)] k n 0 [] := by
  have hkn := oX6_counted_b0 h
  unfold mX6_counted_b0 at h
  refine g_iconst (v := 0) C dX6_counted_0 (by decide) ?_
  refine g_istore_n C dX6_counted_1 (by decide) rfl ?_
  refine g_iconst (v := 0) C dX6_counted_2 (by decide) ?_
  refine g_istore_n C dX6_counted_3 (by decide) rfl ?_
  refine g_sub [2, 3, 1, 0] rfl ?_
  exact wX6_counted_L4 hN C hr gF hch h

set_option maxHeartbeats 2000000 in
set_option maxRecDepth 20000 in
theorem kX6_counted {l : Launch} {D : va_G} {g : gT} {N : Nat} (hN : 193 ≤ N) {ad ln : Nat → Nat} {cp : Nat} (hcp : g_cap ln cp) {A A' : gM} {x1 : Int32} {u : Nat × Nat × Nat} {r : Int32} (h : mX6_counted N cp A x1 = some (A', u, r)) : gAi l yX6_counted cX6_counted 4 (some .int) (1512) D g N ad ln A [gr 183, gi x1] A' u r := by
  refine g_metAi (by decide) (Nat.le_of_ble_eq_true rfl) ?_
  intro p e s m args below meth c C hr
  refine g_sub [0, 1] rfl ?_
  exact wX6_counted_b0 hN C hr (g_chg.rf hcp) h
def mX6_count_b27 (N cp k n : Nat) (A : gM) (s0 : Int32) : Option (gM × (Nat × Nat × Nat) × Int32) :=
  some (A, (cp, k, n), s0)
def mX6_count_b19 (N cp k n : Nat) (A : gM) (s0 : Int32) : Option (gM × (Nat × Nat × Nat) × Int32) :=
  mX6_count_b27 N cp k n A s0
def mX6_count_b0 (N cp k n : Nat) (A : gM) (x1 : Int32) : Option (gM × (Nat × Nat × Nat) × Int32) :=
  g_let (g_up A 183 0 0) fun A1 =>
  (mX6_isIn cp A1 x1 0 5).bind fun q2 =>
  if q2.2 = 0 then
  (mX6_fail cp q2.1 1).bind fun q4 =>
  mX6_count_b27 N cp k n q4.1 q4.2
  else
  (mX6_counted N cp q2.1 x1).bind fun q5 =>
  mX6_count_b19 N q5.2.1.1 (k + q5.2.1.2.1) (n + q5.2.1.2.2) q5.1 q5.2.2
def mX6_count (N cp : Nat) (A : gM) (x1 : Int32) : Option (gM × (Nat × Nat × Nat) × Int32) := mX6_count_b0 N cp 0 0 A x1
set_option maxHeartbeats 2000000 in
set_option maxRecDepth 20000 in
theorem oX6_count_b27 {N : Nat} {A' : gM} {u : Nat × Nat × Nat} {r : Int32}  {cp k n : Nat} {A : gM} {s0 : Int32} (h : mX6_count_b27 N cp k n A s0 = some (A', u, r)) : k ≤ u.2.1 ∧ n ≤ u.2.2 := by
  unfold mX6_count_b27 at h
  obtain ⟨rfl, h2⟩ := Prod.mk.inj (Option.some.inj h)
  obtain ⟨rfl, rfl⟩ := Prod.mk.inj h2
  exact ⟨Nat.le_refl _, Nat.le_refl _⟩

set_option maxHeartbeats 2000000 in
set_option maxRecDepth 20000 in
theorem wX6_count_b27 (hN : 193 ≤ N)  {A0 A' : gM} {u : Nat × Nat × Nat} {r : Int32} (C : gC p (g_rmx 1513 u.2.1 u.2.2) s m args meth c cX6_count RX6 2 D g (va_A (gw g ad0 ln0 A0 N) s.heap.size) 1513) (hr : meth.sig.returnType = some .int)  {cp k n : Nat} (hch : g_chg N ad0 ln0 ad ln cp) {A : gM} {s0 : Int32} (h : mX6_count_b27 N cp k n A s0 = some (A', u, r)) : gJ p l e (g_rmx 1513 u.2.1 u.2.2) s m args below meth c (gEAi below D g N ad0 ln0 A0 A' u r args s) 2 D g (va_A (gw g ad0 ln0 A0 N) s.heap.size) N ad ln A [] k n 27 [gi s0] := by
  have hkn := oX6_count_b27 h
  unfold mX6_count_b27 at h
  obtain ⟨rfl, h2⟩ := Prod.mk.inj (Option.some.inj h)
  obtain ⟨rfl, rfl⟩ := Prod.mk.inj h2
  exact g_retAi C hch hr dX6_count_27

set_option maxHeartbeats 2000000 in
set_option maxRecDepth 20000 in
theorem oX6_count_b19 {N : Nat} {A' : gM} {u : Nat × Nat × Nat} {r : Int32}  {cp k n : Nat} {A : gM} {s0 : Int32} (h : mX6_count_b19 N cp k n A s0 = some (A', u, r)) : k ≤ u.2.1 ∧ n ≤ u.2.2 := by
  unfold mX6_count_b19 at h
  exact oX6_count_b27 h

set_option maxHeartbeats 2000000 in
set_option maxRecDepth 20000 in
theorem wX6_count_b19 (hN : 193 ≤ N)  {A0 A' : gM} {u : Nat × Nat × Nat} {r : Int32} (C : gC p (g_rmx 1513 u.2.1 u.2.2) s m args meth c cX6_count RX6 2 D g (va_A (gw g ad0 ln0 A0 N) s.heap.size) 1513) (hr : meth.sig.returnType = some .int)  {cp k n : Nat} (hch : g_chg N ad0 ln0 ad ln cp) {A : gM} {s0 : Int32} (h : mX6_count_b19 N cp k n A s0 = some (A', u, r)) : gJ p l e (g_rmx 1513 u.2.1 u.2.2) s m args below meth c (gEAi below D g N ad0 ln0 A0 A' u r args s) 2 D g (va_A (gw g ad0 ln0 A0 N) s.heap.size) N ad ln A [] k n 19 [gi s0] := by
  have hkn := oX6_count_b19 h
  unfold mX6_count_b19 at h
  refine g_goto C dX6_count_19 (tgt := 27) (by decide) ?_
  refine g_sub [] rfl ?_
  exact wX6_count_b27 hN C hr hch h

set_option maxHeartbeats 2000000 in
set_option maxRecDepth 20000 in
theorem oX6_count_b0 {N : Nat} {A' : gM} {u : Nat × Nat × Nat} {r : Int32}  {cp k n : Nat} {A : gM} {x1 : Int32} (h : mX6_count_b0 N cp k n A x1 = some (A', u, r)) : k ≤ u.2.1 ∧ n ≤ u.2.2 := by
  unfold mX6_count_b0 at h
  obtain ⟨A1, eA1, h⟩ := g_lt h
  obtain ⟨q2, eq2, h⟩ := g_bd h
  by_cases c3 : q2.2 = 0
  · have h := g_tt c3 h
    obtain ⟨q4, eq4, h⟩ := g_bd h
    exact oX6_count_b27 h
  · have h := g_ff c3 h
    obtain ⟨q5, eq5, h⟩ := g_bd h
    have mo := oX6_count_b19 h
    exact ⟨by omega, by omega⟩

set_option maxHeartbeats 2000000 in
set_option maxRecDepth 20000 in
theorem wX6_count_b0 (hN : 193 ≤ N)  {A0 A' : gM} {u : Nat × Nat × Nat} {r : Int32} (C : gC p (g_rmx 1513 u.2.1 u.2.2) s m args meth c cX6_count RX6 2 D g (va_A (gw g ad0 ln0 A0 N) s.heap.size) 1513) (hr : meth.sig.returnType = some .int)  {cp k n : Nat} (hch : g_chg N ad0 ln0 ad ln cp) {A : gM} {x1 : Int32} (h : mX6_count_b0 N cp k n A x1 = some (A', u, r)) : gJ p l e (g_rmx 1513 u.2.1 u.2.2) s m args below meth c (gEAi below D g N ad0 ln0 A0 A' u r args s) 2 D g (va_A (gw g ad0 ln0 A0 N) s.heap.size) N ad ln A [(0, gr 183), (1, gi x1)] k n 0 [] := by
  have hkn := oX6_count_b0 h
  unfold mX6_count_b0 at h
  refine g_aload_n C 0 dX6_count_0 rfl ?_
  refine g_iconst (v := 0) C dX6_count_1 (by decide) ?_
  obtain ⟨A1, eA1, h⟩ := g_lt h
  refine g_put C 183 0 tyX6 tyX6_ok nmX6 (by omega) rfl rfl gu_6 (by decide) qf_X6_35 rfl (by decide +kernel) (Nat.le_of_ble_eq_true rfl) rfl eA1 dX6_count_2 ?_
  refine g_iload_n C 1 dX6_count_5 rfl ?_
  refine g_iconst (v := 0) C dX6_count_6 (by decide) ?_
  refine g_iconst (v := 5) C dX6_count_7 (by decide) ?_
  obtain ⟨q2, eq2, h⟩ := g_bd h
  refine g_calliS C [gi x1, gi 0, gi 5] (kX6_isIn hN hch.2 eq2) qs_X6_42 (by omega) rfl rfl (Nat.le_of_ble_eq_true rfl) hkn dX6_count_8 ?_
  refine g_if_eq C dX6_count_11 (tgt := 22) (by decide) (fun c3 => ?_) (fun c3 => ?_)
  · have h := g_tt c3 h
    refine g_aload_n C 0 dX6_count_22 rfl ?_
    refine g_iconst (v := 1) C dX6_count_23 (by decide) ?_
    obtain ⟨q4, eq4, h⟩ := g_bd h
    refine g_calliV C 183 [gi 1] (kX6_fail hN hch.2 eq4) qs_X6_60 (by omega) (by omega) rfl rfl rfl rfl (Nat.le_of_ble_eq_true rfl) hkn dX6_count_24 ?_
    refine g_sub [] rfl ?_
    exact wX6_count_b27 hN C hr hch h
  · have h := g_ff c3 h
    refine g_aload_n C 0 dX6_count_14 rfl ?_
    refine g_iload_n C 1 dX6_count_15 rfl ?_
    obtain ⟨q5, eq5, h⟩ := g_bd h
    have mo := oX6_count_b19 h
    refine g_callAiV C 183 [gi x1] (kX6_counted hN hch.2 eq5) qs_X6_195 (by omega) (by omega) rfl rfl rfl rfl (Nat.le_of_ble_eq_true rfl) ⟨mo.1, mo.2⟩ (And.intro ⟨by omega, by omega⟩ True.intro) True.intro dX6_count_16 (fun ad1 ln1 hch1 => ?_)
    have hch := g_chg.trans (by omega) hch hch1
    refine g_sub [] rfl ?_
    exact wX6_count_b19 hN C hr hch h

set_option maxHeartbeats 2000000 in
set_option maxRecDepth 20000 in
theorem kX6_count {l : Launch} {D : va_G} {g : gT} {N : Nat} (hN : 193 ≤ N) {ad ln : Nat → Nat} {cp : Nat} (hcp : g_cap ln cp) {A A' : gM} {x1 : Int32} {u : Nat × Nat × Nat} {r : Int32} (h : mX6_count N cp A x1 = some (A', u, r)) : gAi l yX6_count cX6_count 2 (some .int) (1513) D g N ad ln A [gr 183, gi x1] A' u r := by
  refine g_metAi (by decide) (Nat.le_of_ble_eq_true rfl) ?_
  intro p e s m args below meth c C hr
  refine g_sub [0, 1] rfl ?_
  exact wX6_count_b0 hN C hr (g_chg.rf hcp) h
def mX6_same_b107 (N cp k n : Nat) (A : gM) (x5 : Int32) : Option (gM × (Nat × Nat × Nat) × Int32) :=
  if (x5 : Int32) = 0 ∨ (x5 : Int32) = 1 then some (A, (cp, k, n), x5) else none
def mX6_same_b99 (N cp k n : Nat) (K70 : Nat → Nat → Nat → gM → Nat → Nat → Int32 → Int32 → Option (gM × (Nat × Nat × Nat) × Int32)) (A : gM) (wx3 : Nat) (wx4 : Nat) (x6 : Int32) (s0 : Int32) : Option (gM × (Nat × Nat × Nat) × Int32) :=
  g_let (x6 + 1) fun v1 =>
  K70 cp k n A wx3 wx4 s0 v1
def mX6_same_b70 (N cp k n : Nat) (K70 : Nat → Nat → Nat → gM → Nat → Nat → Int32 → Int32 → Option (gM × (Nat × Nat × Nat) × Int32)) (A : gM) (wx3 : Nat) (wx4 : Nat) (x5 : Int32) (x6 : Int32) : Option (gM × (Nat × Nat × Nat) × Int32) :=
  if x5 = 0 then
  mX6_same_b107 N cp k n A x5
  else
  if (Int32.ofNat wx3) ≤ x6 then
  mX6_same_b107 N cp k n A x5
  else
  if g_in x6 wx3 = true then
  if g_in x6 wx4 = true then
  if (A N x6.toNatClampNeg) = (A (N + 1) x6.toNatClampNeg) then
  mX6_same_b99 N cp k n K70 A wx3 wx4 x6 1
  else
  mX6_same_b99 N cp k n K70 A wx3 wx4 x6 0
  else none
  else none
def mX6_same_L70 (N : Nat) : Nat → Nat → Nat → Nat → gM → Nat → Nat → Int32 → Int32 → Option (gM × (Nat × Nat × Nat) × Int32)
  | 0 => fun _ _ _ _ _ _ _ _ => none
  | f + 1 => fun cp k n => mX6_same_b70 N cp k n (mX6_same_L70 N f)
def mX6_same_b65 (N cp k n : Nat) (A : gM) (wx3 : Nat) (wx4 : Nat) (s0 : Int32) : Option (gM × (Nat × Nat × Nat) × Int32) :=
  mX6_same_L70 N gF cp k n A wx3 wx4 s0 0
def mX6_same_b64 (N cp k n : Nat) (A : gM) (wx3 : Nat) (wx4 : Nat) : Option (gM × (Nat × Nat × Nat) × Int32) :=
  mX6_same_b65 N cp k n A wx3 wx4 0
def mX6_same_b45 (N cp k n : Nat) (A : gM) (wx3 : Nat) (ws0 : Nat) : Option (gM × (Nat × Nat × Nat) × Int32) :=
  if (Int32.ofNat wx3) ≤ 0 then
  mX6_same_b64 N cp k n A wx3 ws0
  else
  if (Int32.ofNat wx3) = (Int32.ofNat ws0) then
  mX6_same_b65 N cp k n A wx3 ws0 1
  else
  mX6_same_b64 N cp k n A wx3 ws0
def mX6_same_b39 (N cp k n : Nat) (A : gM) (x2 : Int32) (ws0 : Nat) : Option (gM × (Nat × Nat × Nat) × Int32) :=
  (mX6_row (N + 1) cp A x2).bind fun q1 =>
  mX6_same_b45 N q1.2.1.1 (k + q1.2.1.2.1) (n + q1.2.1.2.2) q1.1 ws0 q1.2.2
def mX6_same_b22 (N cp k n : Nat) (A : gM) (x1 : Int32) (x2 : Int32) (s1 : Int32) : Option (gM × (Nat × Nat × Nat) × Int32) :=
  g_let (g_up A 183 0 s1) fun A1 =>
  if (A1 183 0) = 0 then
  (mX6_row N cp A1 x1).bind fun q3 =>
  mX6_same_b39 N q3.2.1.1 (k + q3.2.1.2.1) (n + q3.2.1.2.2) q3.1 x2 q3.2.2
  else
  if (0 : Int32) = 0 ∨ (0 : Int32) = 1 then some (A1, (cp, k, n), 0) else none
def mX6_same_b21 (N cp k n : Nat) (A : gM) (x1 : Int32) (x2 : Int32) : Option (gM × (Nat × Nat × Nat) × Int32) :=
  mX6_same_b22 N cp k n A x1 x2 1
def mX6_same_b0 (N cp k n : Nat) (A : gM) (x1 : Int32) (x2 : Int32) : Option (gM × (Nat × Nat × Nat) × Int32) :=
  (mX6_isPart cp A x1).bind fun q1 =>
  if q1.2 = 0 then
  mX6_same_b21 N cp k n q1.1 x1 x2
  else
  (mX6_isPart cp q1.1 x2).bind fun q3 =>
  if q3.2 = 0 then
  mX6_same_b21 N cp k n q3.1 x1 x2
  else
  mX6_same_b22 N cp k n q3.1 x1 x2 0
def mX6_same (N cp : Nat) (A : gM) (x1 : Int32) (x2 : Int32) : Option (gM × (Nat × Nat × Nat) × Int32) := mX6_same_b0 N cp 0 0 A x1 x2
set_option maxHeartbeats 2000000 in
set_option maxRecDepth 20000 in
theorem oX6_same_b107 {N : Nat} {A' : gM} {u : Nat × Nat × Nat} {r : Int32}  {cp k n : Nat} {A : gM} {x5 : Int32} (h : mX6_same_b107 N cp k n A x5 = some (A', u, r)) : k ≤ u.2.1 ∧ n ≤ u.2.2 := by
  unfold mX6_same_b107 at h
  obtain ⟨hz1, h⟩ := g_gd h
  obtain ⟨rfl, h2⟩ := Prod.mk.inj (Option.some.inj h)
  obtain ⟨rfl, rfl⟩ := Prod.mk.inj h2
  exact ⟨Nat.le_refl _, Nat.le_refl _⟩

set_option maxHeartbeats 2000000 in
set_option maxRecDepth 20000 in
theorem wX6_same_b107 (hN : 193 ≤ N)  {A0 A' : gM} {u : Nat × Nat × Nat} {r : Int32} (C : gC p (g_rmx 1513 u.2.1 u.2.2) s m args meth c cX6_same RX6 7 D g (va_A (gw g ad0 ln0 A0 N) s.heap.size) 1513) (hr : meth.sig.returnType = some .boolean)  {cp k n : Nat} (hch : g_chg N ad0 ln0 ad ln cp) {A : gM} {x5 : Int32} (h : mX6_same_b107 N cp k n A x5 = some (A', u, r)) : gJ p l e (g_rmx 1513 u.2.1 u.2.2) s m args below meth c (gEAi below D g N ad0 ln0 A0 A' u r args s) 7 D g (va_A (gw g ad0 ln0 A0 N) s.heap.size) (N + 2) ad ln A [(5, gi x5)] k n 107 [] := by
  have hkn := oX6_same_b107 h
  unfold mX6_same_b107 at h
  refine g_iload C 0 dX6_same_107 rfl ?_
  obtain ⟨hz1, h⟩ := g_gd h
  obtain ⟨rfl, h2⟩ := Prod.mk.inj (Option.some.inj h)
  obtain ⟨rfl, rfl⟩ := Prod.mk.inj h2
  refine g_drop ?_
  refine g_drop ?_
  exact g_retAz C hch hr hz1 dX6_same_109

set_option maxHeartbeats 2000000 in
set_option maxRecDepth 20000 in
theorem oX6_same_b99 {N : Nat} {A' : gM} {u : Nat × Nat × Nat} {r : Int32} {K70 : Nat → Nat → Nat → gM → Nat → Nat → Int32 → Int32 → Option (gM × (Nat × Nat × Nat) × Int32)} (oK70 : ∀ {cp k n : Nat} {A : gM} {wx3 : Nat} {wx4 : Nat} {x5 : Int32} {x6 : Int32}, K70 cp k n A wx3 wx4 x5 x6 = some (A', u, r) → k ≤ u.2.1 ∧ n ≤ u.2.2) {cp k n : Nat} {A : gM} {wx3 : Nat} {wx4 : Nat} {x6 : Int32} {s0 : Int32} (h : mX6_same_b99 N cp k n K70 A wx3 wx4 x6 s0 = some (A', u, r)) : k ≤ u.2.1 ∧ n ≤ u.2.2 := by
  unfold mX6_same_b99 at h
  obtain ⟨v1, ev1, h⟩ := g_lt h
  exact oK70 h

set_option maxHeartbeats 2000000 in
set_option maxRecDepth 20000 in
theorem wX6_same_b99 (hN : 193 ≤ N)  {A0 A' : gM} {u : Nat × Nat × Nat} {r : Int32} (C : gC p (g_rmx 1513 u.2.1 u.2.2) s m args meth c cX6_same RX6 7 D g (va_A (gw g ad0 ln0 A0 N) s.heap.size) 1513) (hr : meth.sig.returnType = some .boolean) {K70 : Nat → Nat → Nat → gM → Nat → Nat → Int32 → Int32 → Option (gM × (Nat × Nat × Nat) × Int32)} (hK70 : ∀ {ad ln : Nat → Nat} {cp k n : Nat} (_ : g_chg N ad0 ln0 ad ln cp) {A : gM} {wx3 : Nat} {wx4 : Nat} {x5 : Int32} {x6 : Int32} (_ : g_ln ln N = wx3) (_ : g_ln ln (N + 1) = wx4), K70 cp k n A wx3 wx4 x5 x6 = some (A', u, r) → gJ p l e (g_rmx 1513 u.2.1 u.2.2) s m args below meth c (gEAi below D g N ad0 ln0 A0 A' u r args s) 7 D g (va_A (gw g ad0 ln0 A0 N) s.heap.size) (N + 2) ad ln A [(3, gr N), (4, gr (N + 1)), (5, gi x5), (6, gi x6)] k n 70 []) (oK70 : ∀ {cp k n : Nat} {A : gM} {wx3 : Nat} {wx4 : Nat} {x5 : Int32} {x6 : Int32}, K70 cp k n A wx3 wx4 x5 x6 = some (A', u, r) → k ≤ u.2.1 ∧ n ≤ u.2.2) {cp k n : Nat} (hch : g_chg N ad0 ln0 ad ln cp) {A : gM} {wx3 : Nat} {wx4 : Nat} {x6 : Int32} {s0 : Int32} (hwx3 : g_ln ln N = wx3) (hwx4 : g_ln ln (N + 1) = wx4) (h : mX6_same_b99 N cp k n K70 A wx3 wx4 x6 s0 = some (A', u, r)) : gJ p l e (g_rmx 1513 u.2.1 u.2.2) s m args below meth c (gEAi below D g N ad0 ln0 A0 A' u r args s) 7 D g (va_A (gw g ad0 ln0 A0 N) s.heap.size) (N + 2) ad ln A [(3, gr N), (4, gr (N + 1)), (6, gi x6)] k n 99 [gi s0] := by
  have hkn := oX6_same_b99 oK70 h
  unfold mX6_same_b99 at h
  refine g_istore C dX6_same_99 (by decide) rfl ?_
  obtain ⟨v1, ev1, h⟩ := g_lt h
  refine g_iinc C 3 dX6_same_101 rfl ev1 (by decide) rfl ?_
  refine g_goto C dX6_same_104 (tgt := 70) (by decide) ?_
  refine g_sub [2, 3, 1, 0] rfl ?_
  exact hK70 hch hwx3 hwx4 h

set_option maxHeartbeats 2000000 in
set_option maxRecDepth 20000 in
theorem oX6_same_b70 {N : Nat} {A' : gM} {u : Nat × Nat × Nat} {r : Int32} {K70 : Nat → Nat → Nat → gM → Nat → Nat → Int32 → Int32 → Option (gM × (Nat × Nat × Nat) × Int32)} (oK70 : ∀ {cp k n : Nat} {A : gM} {wx3 : Nat} {wx4 : Nat} {x5 : Int32} {x6 : Int32}, K70 cp k n A wx3 wx4 x5 x6 = some (A', u, r) → k ≤ u.2.1 ∧ n ≤ u.2.2) {cp k n : Nat} {A : gM} {wx3 : Nat} {wx4 : Nat} {x5 : Int32} {x6 : Int32} (h : mX6_same_b70 N cp k n K70 A wx3 wx4 x5 x6 = some (A', u, r)) : k ≤ u.2.1 ∧ n ≤ u.2.2 := by
  unfold mX6_same_b70 at h
  by_cases c1 : x5 = 0
  · have h := g_tt c1 h
    exact oX6_same_b107 h
  · have h := g_ff c1 h
    by_cases c2 : (Int32.ofNat wx3) ≤ x6
    · have h := g_tt c2 h
      exact oX6_same_b107 h
    · have h := g_ff c2 h
      obtain ⟨hg3, h⟩ := g_gd h
      obtain ⟨hg4, h⟩ := g_gd h
      by_cases c5 : (A N x6.toNatClampNeg) = (A (N + 1) x6.toNatClampNeg)
      · have h := g_tt c5 h
        exact oX6_same_b99 oK70 h
      · have h := g_ff c5 h
        exact oX6_same_b99 oK70 h

set_option maxHeartbeats 2000000 in
set_option maxRecDepth 20000 in
theorem wX6_same_b70 (hN : 193 ≤ N)  {A0 A' : gM} {u : Nat × Nat × Nat} {r : Int32} (C : gC p (g_rmx 1513 u.2.1 u.2.2) s m args meth c cX6_same RX6 7 D g (va_A (gw g ad0 ln0 A0 N) s.heap.size) 1513) (hr : meth.sig.returnType = some .boolean) {K70 : Nat → Nat → Nat → gM → Nat → Nat → Int32 → Int32 → Option (gM × (Nat × Nat × Nat) × Int32)} (hK70 : ∀ {ad ln : Nat → Nat} {cp k n : Nat} (_ : g_chg N ad0 ln0 ad ln cp) {A : gM} {wx3 : Nat} {wx4 : Nat} {x5 : Int32} {x6 : Int32} (_ : g_ln ln N = wx3) (_ : g_ln ln (N + 1) = wx4), K70 cp k n A wx3 wx4 x5 x6 = some (A', u, r) → gJ p l e (g_rmx 1513 u.2.1 u.2.2) s m args below meth c (gEAi below D g N ad0 ln0 A0 A' u r args s) 7 D g (va_A (gw g ad0 ln0 A0 N) s.heap.size) (N + 2) ad ln A [(3, gr N), (4, gr (N + 1)), (5, gi x5), (6, gi x6)] k n 70 []) (oK70 : ∀ {cp k n : Nat} {A : gM} {wx3 : Nat} {wx4 : Nat} {x5 : Int32} {x6 : Int32}, K70 cp k n A wx3 wx4 x5 x6 = some (A', u, r) → k ≤ u.2.1 ∧ n ≤ u.2.2) {cp k n : Nat} (hch : g_chg N ad0 ln0 ad ln cp) {A : gM} {wx3 : Nat} {wx4 : Nat} {x5 : Int32} {x6 : Int32} (hwx3 : g_ln ln N = wx3) (hwx4 : g_ln ln (N + 1) = wx4) (h : mX6_same_b70 N cp k n K70 A wx3 wx4 x5 x6 = some (A', u, r)) : gJ p l e (g_rmx 1513 u.2.1 u.2.2) s m args below meth c (gEAi below D g N ad0 ln0 A0 A' u r args s) 7 D g (va_A (gw g ad0 ln0 A0 N) s.heap.size) (N + 2) ad ln A [(3, gr N), (4, gr (N + 1)), (5, gi x5), (6, gi x6)] k n 70 [] := by
  have hkn := oX6_same_b70 oK70 h
  unfold mX6_same_b70 at h
  refine g_iload C 2 dX6_same_70 rfl ?_
  refine g_if_eq C dX6_same_72 (tgt := 107) (by decide) (fun c1 => ?_) (fun c1 => ?_)
  · have h := g_tt c1 h
    refine g_sub [2] rfl ?_
    exact wX6_same_b107 hN C hr hch h
  · have h := g_ff c1 h
    refine g_iload C 3 dX6_same_75 rfl ?_
    refine g_aload_n C 0 dX6_same_77 rfl ?_
    refine g_alen (v := Int32.ofNat wx3) C N (by omega) (g_isI_big (by omega)) (by rw [hwx3]) dX6_same_78 ?_
    refine g_icmp_ge C dX6_same_79 (tgt := 107) (by decide) (fun c2 => ?_) (fun c2 => ?_)
    · have h := g_tt c2 h
      refine g_sub [2] rfl ?_
      exact wX6_same_b107 hN C hr hch h
    · have h := g_ff c2 h
      refine g_aload_n C 0 dX6_same_82 rfl ?_
      refine g_iload C 3 dX6_same_83 rfl ?_
      obtain ⟨hg3, h⟩ := g_gd h
      refine g_iald C N (by omega) (g_isI_big (by omega)) hwx3 hg3 dX6_same_85 ?_
      refine g_aload C 1 dX6_same_86 rfl ?_
      refine g_iload C 3 dX6_same_88 rfl ?_
      obtain ⟨hg4, h⟩ := g_gd h
      refine g_iald C (N + 1) (by omega) (g_isI_big (by omega)) hwx4 hg4 dX6_same_90 ?_
      refine g_icmp_ne C dX6_same_91 (tgt := 98) (by decide) (fun c5 => ?_) (fun c5 => ?_)
      · have h := g_ff c5 h
        refine g_iconst (v := 0) C dX6_same_98 (by decide) ?_
        refine g_sub [0, 1, 3] rfl ?_
        exact wX6_same_b99 hN C hr hK70 oK70 hch hwx3 hwx4 h
      · have h := g_tt c5 h
        refine g_iconst (v := 1) C dX6_same_94 (by decide) ?_
        refine g_goto C dX6_same_95 (tgt := 99) (by decide) ?_
        refine g_sub [0, 1, 3] rfl ?_
        exact wX6_same_b99 hN C hr hK70 oK70 hch hwx3 hwx4 h

set_option maxHeartbeats 2000000 in
set_option maxRecDepth 20000 in
theorem oX6_same_L70 {N : Nat} {A' : gM} {u : Nat × Nat × Nat} {r : Int32}  : ∀ (f : Nat) {cp k n : Nat} {A : gM} {wx3 : Nat} {wx4 : Nat} {x5 : Int32} {x6 : Int32}, mX6_same_L70 N f cp k n A wx3 wx4 x5 x6 = some (A', u, r) → k ≤ u.2.1 ∧ n ≤ u.2.2
  | 0, _, _, _, A, wx3, wx4, x5, x6, h => by cases h
  | f + 1, cp, k, n, A, wx3, wx4, x5, x6, h => oX6_same_b70 (K70 := mX6_same_L70 N f) (fun h => oX6_same_L70 f h) h
set_option maxHeartbeats 2000000 in
set_option maxRecDepth 20000 in
theorem wX6_same_L70 (hN : 193 ≤ N)  {A0 A' : gM} {u : Nat × Nat × Nat} {r : Int32} (C : gC p (g_rmx 1513 u.2.1 u.2.2) s m args meth c cX6_same RX6 7 D g (va_A (gw g ad0 ln0 A0 N) s.heap.size) 1513) (hr : meth.sig.returnType = some .boolean)  : ∀ (f : Nat) {ad ln : Nat → Nat} {cp k n : Nat} (_ : g_chg N ad0 ln0 ad ln cp) {A : gM} {wx3 : Nat} {wx4 : Nat} {x5 : Int32} {x6 : Int32} (_ : g_ln ln N = wx3) (_ : g_ln ln (N + 1) = wx4), mX6_same_L70 N f cp k n A wx3 wx4 x5 x6 = some (A', u, r) → gJ p l e (g_rmx 1513 u.2.1 u.2.2) s m args below meth c (gEAi below D g N ad0 ln0 A0 A' u r args s) 7 D g (va_A (gw g ad0 ln0 A0 N) s.heap.size) (N + 2) ad ln A [(3, gr N), (4, gr (N + 1)), (5, gi x5), (6, gi x6)] k n 70 []
  | 0, ad, ln, cp, k, n, hch, A, wx3, wx4, x5, x6, hwx3, hwx4, h => by cases h
  | f + 1, ad, ln, cp, k, n, hch, A, wx3, wx4, x5, x6, hwx3, hwx4, h => wX6_same_b70 (K70 := mX6_same_L70 N f) hN C hr (fun {ad ln} {cp k n} hch {A} {wx3} {wx4} {x5} {x6} hwx3 hwx4 h => wX6_same_L70 hN C hr f hch hwx3 hwx4 h) (fun h => oX6_same_L70 f h) hch hwx3 hwx4 h
set_option maxHeartbeats 2000000 in
set_option maxRecDepth 20000 in
theorem oX6_same_b65 {N : Nat} {A' : gM} {u : Nat × Nat × Nat} {r : Int32}  {cp k n : Nat} {A : gM} {wx3 : Nat} {wx4 : Nat} {s0 : Int32} (h : mX6_same_b65 N cp k n A wx3 wx4 s0 = some (A', u, r)) : k ≤ u.2.1 ∧ n ≤ u.2.2 := by
  unfold mX6_same_b65 at h
  exact oX6_same_L70 gF h

set_option maxHeartbeats 2000000 in
set_option maxRecDepth 20000 in
theorem wX6_same_b65 (hN : 193 ≤ N)  {A0 A' : gM} {u : Nat × Nat × Nat} {r : Int32} (C : gC p (g_rmx 1513 u.2.1 u.2.2) s m args meth c cX6_same RX6 7 D g (va_A (gw g ad0 ln0 A0 N) s.heap.size) 1513) (hr : meth.sig.returnType = some .boolean)  {cp k n : Nat} (hch : g_chg N ad0 ln0 ad ln cp) {A : gM} {wx3 : Nat} {wx4 : Nat} {s0 : Int32} (hwx3 : g_ln ln N = wx3) (hwx4 : g_ln ln (N + 1) = wx4) (h : mX6_same_b65 N cp k n A wx3 wx4 s0 = some (A', u, r)) : gJ p l e (g_rmx 1513 u.2.1 u.2.2) s m args below meth c (gEAi below D g N ad0 ln0 A0 A' u r args s) 7 D g (va_A (gw g ad0 ln0 A0 N) s.heap.size) (N + 2) ad ln A [(3, gr N), (4, gr (N + 1))] k n 65 [gi s0] := by
  have hkn := oX6_same_b65 h
  unfold mX6_same_b65 at h
  refine g_istore C dX6_same_65 (by decide) rfl ?_
  refine g_iconst (v := 0) C dX6_same_67 (by decide) ?_
  refine g_istore C dX6_same_68 (by decide) rfl ?_
  refine g_sub [2, 3, 1, 0] rfl ?_
  exact wX6_same_L70 hN C hr gF hch hwx3 hwx4 h

set_option maxHeartbeats 2000000 in
set_option maxRecDepth 20000 in
theorem oX6_same_b64 {N : Nat} {A' : gM} {u : Nat × Nat × Nat} {r : Int32}  {cp k n : Nat} {A : gM} {wx3 : Nat} {wx4 : Nat} (h : mX6_same_b64 N cp k n A wx3 wx4 = some (A', u, r)) : k ≤ u.2.1 ∧ n ≤ u.2.2 := by
  unfold mX6_same_b64 at h
  exact oX6_same_b65 h

set_option maxHeartbeats 2000000 in
set_option maxRecDepth 20000 in
theorem wX6_same_b64 (hN : 193 ≤ N)  {A0 A' : gM} {u : Nat × Nat × Nat} {r : Int32} (C : gC p (g_rmx 1513 u.2.1 u.2.2) s m args meth c cX6_same RX6 7 D g (va_A (gw g ad0 ln0 A0 N) s.heap.size) 1513) (hr : meth.sig.returnType = some .boolean)  {cp k n : Nat} (hch : g_chg N ad0 ln0 ad ln cp) {A : gM} {wx3 : Nat} {wx4 : Nat} (hwx3 : g_ln ln N = wx3) (hwx4 : g_ln ln (N + 1) = wx4) (h : mX6_same_b64 N cp k n A wx3 wx4 = some (A', u, r)) : gJ p l e (g_rmx 1513 u.2.1 u.2.2) s m args below meth c (gEAi below D g N ad0 ln0 A0 A' u r args s) 7 D g (va_A (gw g ad0 ln0 A0 N) s.heap.size) (N + 2) ad ln A [(3, gr N), (4, gr (N + 1))] k n 64 [] := by
  have hkn := oX6_same_b64 h
  unfold mX6_same_b64 at h
  refine g_iconst (v := 0) C dX6_same_64 (by decide) ?_
  refine g_sub [0, 1] rfl ?_
  exact wX6_same_b65 hN C hr hch hwx3 hwx4 h

set_option maxHeartbeats 2000000 in
set_option maxRecDepth 20000 in
theorem oX6_same_b45 {N : Nat} {A' : gM} {u : Nat × Nat × Nat} {r : Int32}  {cp k n : Nat} {A : gM} {wx3 : Nat} {ws0 : Nat} (h : mX6_same_b45 N cp k n A wx3 ws0 = some (A', u, r)) : k ≤ u.2.1 ∧ n ≤ u.2.2 := by
  unfold mX6_same_b45 at h
  by_cases c1 : (Int32.ofNat wx3) ≤ 0
  · have h := g_tt c1 h
    exact oX6_same_b64 h
  · have h := g_ff c1 h
    by_cases c2 : (Int32.ofNat wx3) = (Int32.ofNat ws0)
    · have h := g_tt c2 h
      exact oX6_same_b65 h
    · have h := g_ff c2 h
      exact oX6_same_b64 h

set_option maxHeartbeats 2000000 in
set_option maxRecDepth 20000 in
theorem wX6_same_b45 (hN : 193 ≤ N)  {A0 A' : gM} {u : Nat × Nat × Nat} {r : Int32} (C : gC p (g_rmx 1513 u.2.1 u.2.2) s m args meth c cX6_same RX6 7 D g (va_A (gw g ad0 ln0 A0 N) s.heap.size) 1513) (hr : meth.sig.returnType = some .boolean)  {cp k n : Nat} (hch : g_chg N ad0 ln0 ad ln cp) {A : gM} {wx3 : Nat} {ws0 : Nat} (hwx3 : g_ln ln N = wx3) (hws0 : g_ln ln (N + 1) = ws0) (h : mX6_same_b45 N cp k n A wx3 ws0 = some (A', u, r)) : gJ p l e (g_rmx 1513 u.2.1 u.2.2) s m args below meth c (gEAi below D g N ad0 ln0 A0 A' u r args s) 7 D g (va_A (gw g ad0 ln0 A0 N) s.heap.size) (N + 2) ad ln A [(3, gr N)] k n 45 [gr (N + 1)] := by
  have hkn := oX6_same_b45 h
  unfold mX6_same_b45 at h
  refine g_astore C dX6_same_45 (by decide) rfl ?_
  refine g_aload_n C 1 dX6_same_47 rfl ?_
  refine g_alen (v := Int32.ofNat wx3) C N (by omega) (g_isI_big (by omega)) (by rw [hwx3]) dX6_same_48 ?_
  refine g_if_le C dX6_same_49 (tgt := 64) (by decide) (fun c1 => ?_) (fun c1 => ?_)
  · have h := g_tt c1 h
    refine g_sub [1, 0] rfl ?_
    exact wX6_same_b64 hN C hr hch hwx3 hws0 h
  · have h := g_ff c1 h
    refine g_aload_n C 1 dX6_same_52 rfl ?_
    refine g_alen (v := Int32.ofNat wx3) C N (by omega) (g_isI_big (by omega)) (by rw [hwx3]) dX6_same_53 ?_
    refine g_aload C 0 dX6_same_54 rfl ?_
    refine g_alen (v := Int32.ofNat ws0) C (N + 1) (by omega) (g_isI_big (by omega)) (by rw [hws0]) dX6_same_56 ?_
    refine g_icmp_ne C dX6_same_57 (tgt := 64) (by decide) (fun c2 => ?_) (fun c2 => ?_)
    · have h := g_ff c2 h
      refine g_sub [1, 0] rfl ?_
      exact wX6_same_b64 hN C hr hch hwx3 hws0 h
    · have h := g_tt c2 h
      refine g_iconst (v := 1) C dX6_same_60 (by decide) ?_
      refine g_goto C dX6_same_61 (tgt := 65) (by decide) ?_
      refine g_sub [1, 0] rfl ?_
      exact wX6_same_b65 hN C hr hch hwx3 hws0 h

set_option maxHeartbeats 2000000 in
set_option maxRecDepth 20000 in
theorem oX6_same_b39 {N : Nat} {A' : gM} {u : Nat × Nat × Nat} {r : Int32}  {cp k n : Nat} {A : gM} {x2 : Int32} {ws0 : Nat} (h : mX6_same_b39 N cp k n A x2 ws0 = some (A', u, r)) : k ≤ u.2.1 ∧ n ≤ u.2.2 := by
  unfold mX6_same_b39 at h
  obtain ⟨q1, eq1, h⟩ := g_bd h
  have mo := oX6_same_b45 h
  exact ⟨by omega, by omega⟩

set_option maxHeartbeats 2000000 in
set_option maxRecDepth 20000 in
theorem wX6_same_b39 (hN : 193 ≤ N)  {A0 A' : gM} {u : Nat × Nat × Nat} {r : Int32} (C : gC p (g_rmx 1513 u.2.1 u.2.2) s m args meth c cX6_same RX6 7 D g (va_A (gw g ad0 ln0 A0 N) s.heap.size) 1513) (hr : meth.sig.returnType = some .boolean)  {cp k n : Nat} (hch : g_chg N ad0 ln0 ad ln cp) {A : gM} {x2 : Int32} {ws0 : Nat} (hws0 : g_ln ln N = ws0) (h : mX6_same_b39 N cp k n A x2 ws0 = some (A', u, r)) : gJ p l e (g_rmx 1513 u.2.1 u.2.2) s m args below meth c (gEAi below D g N ad0 ln0 A0 A' u r args s) 7 D g (va_A (gw g ad0 ln0 A0 N) s.heap.size) (N + 1) ad ln A [(0, gr 183), (2, gi x2)] k n 39 [gr N] := by
  have hkn := oX6_same_b39 h
  unfold mX6_same_b39 at h
  refine g_astore_n C dX6_same_39 (by decide) rfl ?_
  refine g_aload_n C 1 dX6_same_40 rfl ?_
  refine g_iload_n C 2 dX6_same_41 rfl ?_
  obtain ⟨q1, eq1, h⟩ := g_bd h
  have mo := oX6_same_b45 h
  refine g_callArV C 183 [gi x2] (kX6_row (by omega) hch.2 eq1) qs_X6_188 (by omega) (by omega) rfl rfl rfl rfl (Nat.le_of_ble_eq_true rfl) ⟨mo.1, mo.2⟩ (And.intro ⟨by omega, by omega⟩ (And.intro ⟨by omega, by omega⟩ True.intro)) True.intro dX6_same_42 (fun ad1 ln1 hch1 hlw => ?_)
  have hch := g_chg.trans (by omega) hch hch1
  have hws0 := g_len_chg (q := N) (by omega) (by omega) hch1 hws0
  refine g_sub [0] rfl ?_
  exact wX6_same_b45 hN C hr hch hws0 ((g_ln_big (by omega)).trans hlw) h

set_option maxHeartbeats 2000000 in
set_option maxRecDepth 20000 in
theorem oX6_same_b22 {N : Nat} {A' : gM} {u : Nat × Nat × Nat} {r : Int32}  {cp k n : Nat} {A : gM} {x1 : Int32} {x2 : Int32} {s1 : Int32} (h : mX6_same_b22 N cp k n A x1 x2 s1 = some (A', u, r)) : k ≤ u.2.1 ∧ n ≤ u.2.2 := by
  unfold mX6_same_b22 at h
  obtain ⟨A1, eA1, h⟩ := g_lt h
  by_cases c2 : (A1 183 0) = 0
  · have h := g_tt c2 h
    obtain ⟨q3, eq3, h⟩ := g_bd h
    have mo := oX6_same_b39 h
    exact ⟨by omega, by omega⟩
  · have h := g_ff c2 h
    obtain ⟨hz4, h⟩ := g_gd h
    obtain ⟨rfl, h2⟩ := Prod.mk.inj (Option.some.inj h)
    obtain ⟨rfl, rfl⟩ := Prod.mk.inj h2
    exact ⟨Nat.le_refl _, Nat.le_refl _⟩

set_option maxHeartbeats 2000000 in
set_option maxRecDepth 20000 in
theorem wX6_same_b22 (hN : 193 ≤ N)  {A0 A' : gM} {u : Nat × Nat × Nat} {r : Int32} (C : gC p (g_rmx 1513 u.2.1 u.2.2) s m args meth c cX6_same RX6 7 D g (va_A (gw g ad0 ln0 A0 N) s.heap.size) 1513) (hr : meth.sig.returnType = some .boolean)  {cp k n : Nat} (hch : g_chg N ad0 ln0 ad ln cp) {A : gM} {x1 : Int32} {x2 : Int32} {s1 : Int32} (h : mX6_same_b22 N cp k n A x1 x2 s1 = some (A', u, r)) : gJ p l e (g_rmx 1513 u.2.1 u.2.2) s m args below meth c (gEAi below D g N ad0 ln0 A0 A' u r args s) 7 D g (va_A (gw g ad0 ln0 A0 N) s.heap.size) N ad ln A [(0, gr 183), (1, gi x1), (2, gi x2)] k n 22 [gi s1, gr 183] := by
  have hkn := oX6_same_b22 h
  unfold mX6_same_b22 at h
  obtain ⟨A1, eA1, h⟩ := g_lt h
  refine g_put C 183 0 tyX6 tyX6_ok nmX6 (by omega) rfl rfl gu_6 (by decide) qf_X6_35 rfl (by decide +kernel) (Nat.le_of_ble_eq_true rfl) rfl eA1 dX6_same_22 ?_
  refine g_aload_n C 0 dX6_same_25 rfl ?_
  refine g_get (v := gi (A1 183 0)) C 183 0 (by omega) rfl rfl gu_6 (by decide) qf_X6_35 rfl dX6_same_26 ?_
  refine g_if_eq C dX6_same_29 (tgt := 34) (by decide) (fun c2 => ?_) (fun c2 => ?_)
  · have h := g_tt c2 h
    refine g_aload_n C 0 dX6_same_34 rfl ?_
    refine g_iload_n C 1 dX6_same_35 rfl ?_
    obtain ⟨q3, eq3, h⟩ := g_bd h
    have mo := oX6_same_b39 h
    refine g_callArV C 183 [gi x1] (kX6_row hN hch.2 eq3) qs_X6_188 (by omega) (by omega) rfl rfl rfl rfl (Nat.le_of_ble_eq_true rfl) ⟨mo.1, mo.2⟩ (And.intro ⟨by omega, by omega⟩ True.intro) True.intro dX6_same_36 (fun ad1 ln1 hch1 hlw => ?_)
    have hch := g_chg.trans (by omega) hch hch1
    refine g_sub [0, 2] rfl ?_
    exact wX6_same_b39 hN C hr hch ((g_ln_big (by omega)).trans hlw) h
  · have h := g_ff c2 h
    refine g_iconst (v := 0) C dX6_same_32 (by decide) ?_
    obtain ⟨hz4, h⟩ := g_gd h
    obtain ⟨rfl, h2⟩ := Prod.mk.inj (Option.some.inj h)
    obtain ⟨rfl, rfl⟩ := Prod.mk.inj h2
    exact g_retAz C hch hr hz4 dX6_same_33

set_option maxHeartbeats 2000000 in
set_option maxRecDepth 20000 in
theorem oX6_same_b21 {N : Nat} {A' : gM} {u : Nat × Nat × Nat} {r : Int32}  {cp k n : Nat} {A : gM} {x1 : Int32} {x2 : Int32} (h : mX6_same_b21 N cp k n A x1 x2 = some (A', u, r)) : k ≤ u.2.1 ∧ n ≤ u.2.2 := by
  unfold mX6_same_b21 at h
  exact oX6_same_b22 h

set_option maxHeartbeats 2000000 in
set_option maxRecDepth 20000 in
theorem wX6_same_b21 (hN : 193 ≤ N)  {A0 A' : gM} {u : Nat × Nat × Nat} {r : Int32} (C : gC p (g_rmx 1513 u.2.1 u.2.2) s m args meth c cX6_same RX6 7 D g (va_A (gw g ad0 ln0 A0 N) s.heap.size) 1513) (hr : meth.sig.returnType = some .boolean)  {cp k n : Nat} (hch : g_chg N ad0 ln0 ad ln cp) {A : gM} {x1 : Int32} {x2 : Int32} (h : mX6_same_b21 N cp k n A x1 x2 = some (A', u, r)) : gJ p l e (g_rmx 1513 u.2.1 u.2.2) s m args below meth c (gEAi below D g N ad0 ln0 A0 A' u r args s) 7 D g (va_A (gw g ad0 ln0 A0 N) s.heap.size) N ad ln A [(0, gr 183), (1, gi x1), (2, gi x2)] k n 21 [gr 183] := by
  have hkn := oX6_same_b21 h
  unfold mX6_same_b21 at h
  refine g_iconst (v := 1) C dX6_same_21 (by decide) ?_
  refine g_sub [0, 1, 2] rfl ?_
  exact wX6_same_b22 hN C hr hch h

set_option maxHeartbeats 2000000 in
set_option maxRecDepth 20000 in
theorem oX6_same_b0 {N : Nat} {A' : gM} {u : Nat × Nat × Nat} {r : Int32}  {cp k n : Nat} {A : gM} {x1 : Int32} {x2 : Int32} (h : mX6_same_b0 N cp k n A x1 x2 = some (A', u, r)) : k ≤ u.2.1 ∧ n ≤ u.2.2 := by
  unfold mX6_same_b0 at h
  obtain ⟨q1, eq1, h⟩ := g_bd h
  by_cases c2 : q1.2 = 0
  · have h := g_tt c2 h
    exact oX6_same_b21 h
  · have h := g_ff c2 h
    obtain ⟨q3, eq3, h⟩ := g_bd h
    by_cases c4 : q3.2 = 0
    · have h := g_tt c4 h
      exact oX6_same_b21 h
    · have h := g_ff c4 h
      exact oX6_same_b22 h

set_option maxHeartbeats 2000000 in
set_option maxRecDepth 20000 in
theorem wX6_same_b0 (hN : 193 ≤ N)  {A0 A' : gM} {u : Nat × Nat × Nat} {r : Int32} (C : gC p (g_rmx 1513 u.2.1 u.2.2) s m args meth c cX6_same RX6 7 D g (va_A (gw g ad0 ln0 A0 N) s.heap.size) 1513) (hr : meth.sig.returnType = some .boolean)  {cp k n : Nat} (hch : g_chg N ad0 ln0 ad ln cp) {A : gM} {x1 : Int32} {x2 : Int32} (h : mX6_same_b0 N cp k n A x1 x2 = some (A', u, r)) : gJ p l e (g_rmx 1513 u.2.1 u.2.2) s m args below meth c (gEAi below D g N ad0 ln0 A0 A' u r args s) 7 D g (va_A (gw g ad0 ln0 A0 N) s.heap.size) N ad ln A [(0, gr 183), (1, gi x1), (2, gi x2)] k n 0 [] := by
  have hkn := oX6_same_b0 h
  unfold mX6_same_b0 at h
  refine g_aload_n C 0 dX6_same_0 rfl ?_
  refine g_aload_n C 0 dX6_same_1 rfl ?_
  refine g_iload_n C 1 dX6_same_2 rfl ?_
  obtain ⟨q1, eq1, h⟩ := g_bd h
  refine g_calliV C 183 [gi x1] (kX6_isPart hN hch.2 eq1) qs_X6_75 (by omega) (by omega) rfl rfl rfl rfl (Nat.le_of_ble_eq_true rfl) hkn dX6_same_3 ?_
  refine g_if_eq C dX6_same_6 (tgt := 21) (by decide) (fun c2 => ?_) (fun c2 => ?_)
  · have h := g_tt c2 h
    refine g_sub [0, 1, 2] rfl ?_
    exact wX6_same_b21 hN C hr hch h
  · have h := g_ff c2 h
    refine g_aload_n C 0 dX6_same_9 rfl ?_
    refine g_iload_n C 2 dX6_same_10 rfl ?_
    obtain ⟨q3, eq3, h⟩ := g_bd h
    refine g_calliV C 183 [gi x2] (kX6_isPart hN hch.2 eq3) qs_X6_75 (by omega) (by omega) rfl rfl rfl rfl (Nat.le_of_ble_eq_true rfl) hkn dX6_same_11 ?_
    refine g_if_eq C dX6_same_14 (tgt := 21) (by decide) (fun c4 => ?_) (fun c4 => ?_)
    · have h := g_tt c4 h
      refine g_sub [0, 1, 2] rfl ?_
      exact wX6_same_b21 hN C hr hch h
    · have h := g_ff c4 h
      refine g_iconst (v := 0) C dX6_same_17 (by decide) ?_
      refine g_goto C dX6_same_18 (tgt := 22) (by decide) ?_
      refine g_sub [0, 1, 2] rfl ?_
      exact wX6_same_b22 hN C hr hch h

set_option maxHeartbeats 2000000 in
set_option maxRecDepth 20000 in
theorem kX6_same {l : Launch} {D : va_G} {g : gT} {N : Nat} (hN : 193 ≤ N) {ad ln : Nat → Nat} {cp : Nat} (hcp : g_cap ln cp) {A A' : gM} {x1 : Int32} {x2 : Int32} {u : Nat × Nat × Nat} {r : Int32} (h : mX6_same N cp A x1 x2 = some (A', u, r)) : gAi l yX6_same cX6_same 7 (some .boolean) (1513) D g N ad ln A [gr 183, gi x1, gi x2] A' u r := by
  refine g_metAi (by decide) (Nat.le_of_ble_eq_true rfl) ?_
  intro p e s m args below meth c C hr
  refine g_sub [0, 1, 2] rfl ?_
  exact wX6_same_b0 hN C hr (g_chg.rf hcp) h
def mX6_fits_b58 (N cp k n : Nat) (A : gM) : Option (gM × (Nat × Nat × Nat) × Int32) :=
  if (0 : Int32) = 0 ∨ (0 : Int32) = 1 then some (A, (cp, k, n), 0) else none
def mX6_fits_b218 (N cp k n : Nat) (K103 : Nat → Nat → Nat → gM → Nat → Nat → Int32 → Nat → Int32 → Int32 → Option (gM × (Nat × Nat × Nat) × Int32)) (A : gM) (wx4 : Nat) (wx5 : Nat) (x6 : Int32) (wx7 : Nat) (x8 : Int32) (x9 : Int32) : Option (gM × (Nat × Nat × Nat) × Int32) :=
  g_let (x9 + 1) fun v1 =>
  K103 cp k n A wx4 wx5 x6 wx7 x8 v1
def mX6_fits_b177 (N cp k n : Nat) (K103 : Nat → Nat → Nat → gM → Nat → Nat → Int32 → Nat → Int32 → Int32 → Option (gM × (Nat × Nat × Nat) × Int32)) (K177 : Nat → Nat → Nat → gM → Nat → Nat → Int32 → Nat → Int32 → Int32 → Int32 → Int32 → Int32 → Option (gM × (Nat × Nat × Nat) × Int32)) (A : gM) (wx4 : Nat) (wx5 : Nat) (x6 : Int32) (wx7 : Nat) (x8 : Int32) (x9 : Int32) (x11 : Int32) (x12 : Int32) (x13 : Int32) : Option (gM × (Nat × Nat × Nat) × Int32) :=
  if (x11 - x6) ≤ x13 then
  mX6_fits_b218 N cp k n K103 A wx4 wx5 x11 wx7 x8 x9
  else
  if g_in (x12 + x13) wx4 = true then
  if g_in (x6 + x13) wx4 = true then
  if (A (N + 1) (x12 + x13).toNatClampNeg) = (A (N + 1) (x6 + x13).toNatClampNeg) then
  g_let (x13 + 1) fun v5 =>
  K177 cp k n A wx4 wx5 x6 wx7 x8 x9 x11 x12 v5
  else
  if (0 : Int32) = 0 ∨ (0 : Int32) = 1 then some (A, (cp, k, n), 0) else none
  else none
  else none
def mX6_fits_L177 (N : Nat) (K103 : Nat → Nat → Nat → gM → Nat → Nat → Int32 → Nat → Int32 → Int32 → Option (gM × (Nat × Nat × Nat) × Int32)) : Nat → Nat → Nat → Nat → gM → Nat → Nat → Int32 → Nat → Int32 → Int32 → Int32 → Int32 → Int32 → Option (gM × (Nat × Nat × Nat) × Int32)
  | 0 => fun _ _ _ _ _ _ _ _ _ _ _ _ _ => none
  | f + 1 => fun cp k n => mX6_fits_b177 N cp k n K103 (mX6_fits_L177 N K103 f)
def mX6_fits_b167 (N cp k n : Nat) (K103 : Nat → Nat → Nat → gM → Nat → Nat → Int32 → Nat → Int32 → Int32 → Option (gM × (Nat × Nat × Nat) × Int32)) (A : gM) (wx4 : Nat) (wx5 : Nat) (x6 : Int32) (wx7 : Nat) (x8 : Int32) (x9 : Int32) (x10 : Int32) (x11 : Int32) : Option (gM × (Nat × Nat × Nat) × Int32) :=
  if g_in x10 wx5 = true then
  g_let (A (N + 2) x10.toNatClampNeg) fun v2 =>
  mX6_fits_L177 N K103 gF cp k n A wx4 wx5 x6 wx7 x8 x9 x11 v2 0
  else none
def mX6_fits_b103 (N cp k n : Nat) (K103 : Nat → Nat → Nat → gM → Nat → Nat → Int32 → Nat → Int32 → Int32 → Option (gM × (Nat × Nat × Nat) × Int32)) (A : gM) (wx4 : Nat) (wx5 : Nat) (x6 : Int32) (wx7 : Nat) (x8 : Int32) (x9 : Int32) : Option (gM × (Nat × Nat × Nat) × Int32) :=
  if x8 ≤ x9 then
  if (1 : Int32) = 0 ∨ (1 : Int32) = 1 then some (A, (cp, k, n), 1) else none
  else
  if g_in x9 wx7 = true then
  g_let (A N x9.toNatClampNeg) fun v4 =>
  (mX6_behind cp 62 A (N + 1) wx4 x6).bind fun q5 =>
  if 10 ≤ v4 then
  if g_in v4 wx5 = true then
  if (q5.1 (N + 2) v4.toNatClampNeg) = (-1) then
  if g_in v4 wx5 = true then g_let (g_up q5.1 (N + 2) v4.toNatClampNeg x6) fun A10 =>
  mX6_fits_b167 N cp k n K103 A10 wx4 wx5 x6 wx7 x8 x9 v4 q5.2
  else none
  else
  mX6_fits_b167 N cp k n K103 q5.1 wx4 wx5 x6 wx7 x8 x9 v4 q5.2
  else none
  else
  if g_in x6 wx4 = true then
  if (q5.1 (N + 1) x6.toNatClampNeg) = v4 then
  g_let (x6 + 1) fun v13 =>
  mX6_fits_b218 N cp k n K103 q5.1 wx4 wx5 v13 wx7 x8 x9
  else
  if (0 : Int32) = 0 ∨ (0 : Int32) = 1 then some (q5.1, (cp, k, n), 0) else none
  else none
  else none
def mX6_fits_L103 (N : Nat) : Nat → Nat → Nat → Nat → gM → Nat → Nat → Int32 → Nat → Int32 → Int32 → Option (gM × (Nat × Nat × Nat) × Int32)
  | 0 => fun _ _ _ _ _ _ _ _ _ _ => none
  | f + 1 => fun cp k n => mX6_fits_b103 N cp k n (mX6_fits_L103 N f)
def mX6_fits_b69 (N cp k n : Nat) (K69 : Nat → Nat → Nat → gM → Nat → Nat → Nat → Int32 → Option (gM × (Nat × Nat × Nat) × Int32)) (A : gM) (wx3 : Nat) (wx4 : Nat) (wx5 : Nat) (x6 : Int32) : Option (gM × (Nat × Nat × Nat) × Int32) :=
  if (Int32.ofNat wx5) ≤ x6 then
  g_let (Int32.ofNat wx3) fun v2 =>
  mX6_fits_L103 N gF cp k n A wx4 wx5 0 wx3 v2 0
  else
  if g_in x6 wx5 = true then g_let (g_up A (N + 2) x6.toNatClampNeg (-1)) fun A4 =>
  g_let (x6 + 1) fun v5 =>
  K69 cp k n A4 wx3 wx4 wx5 v5
  else none
def mX6_fits_L69 (N : Nat) : Nat → Nat → Nat → Nat → gM → Nat → Nat → Nat → Int32 → Option (gM × (Nat × Nat × Nat) × Int32)
  | 0 => fun _ _ _ _ _ _ _ _ => none
  | f + 1 => fun cp k n => mX6_fits_b69 N cp k n (mX6_fits_L69 N f)
def mX6_fits_b64 (N cp k n : Nat) (A : gM) (wx3 : Nat) (wx4 : Nat) (ws0 : Nat) : Option (gM × (Nat × Nat × Nat) × Int32) :=
  mX6_fits_L69 N gF cp k n A wx3 wx4 ws0 0
def mX6_fits_b45 (N cp k n : Nat) (A : gM) (wx3 : Nat) (ws0 : Nat) : Option (gM × (Nat × Nat × Nat) × Int32) :=
  if (Int32.ofNat wx3) = 0 then
  mX6_fits_b58 N cp k n A
  else
  if (Int32.ofNat ws0) = 0 then
  mX6_fits_b58 N cp k n A
  else
  if ¬ 71 < (0 : Int32) ∧ (71 : Int32).toNatClampNeg ≤ 100000 then
  mX6_fits_b64 N cp (k + 1) (n + (71 : Int32).toNatClampNeg) (g_row A (N + 2) (fun _ => 0)) wx3 ws0 ((71 : Int32).toNatClampNeg)
  else none
def mX6_fits_b39 (N cp k n : Nat) (A : gM) (x2 : Int32) (ws0 : Nat) : Option (gM × (Nat × Nat × Nat) × Int32) :=
  (mX6_row (N + 1) cp A x2).bind fun q1 =>
  mX6_fits_b45 N q1.2.1.1 (k + q1.2.1.2.1) (n + q1.2.1.2.2) q1.1 ws0 q1.2.2
def mX6_fits_b22 (N cp k n : Nat) (A : gM) (x1 : Int32) (x2 : Int32) (s1 : Int32) : Option (gM × (Nat × Nat × Nat) × Int32) :=
  g_let (g_up A 183 0 s1) fun A1 =>
  if (A1 183 0) = 0 then
  (mX6_row N cp A1 x1).bind fun q3 =>
  mX6_fits_b39 N q3.2.1.1 (k + q3.2.1.2.1) (n + q3.2.1.2.2) q3.1 x2 q3.2.2
  else
  if (0 : Int32) = 0 ∨ (0 : Int32) = 1 then some (A1, (cp, k, n), 0) else none
def mX6_fits_b21 (N cp k n : Nat) (A : gM) (x1 : Int32) (x2 : Int32) : Option (gM × (Nat × Nat × Nat) × Int32) :=
  mX6_fits_b22 N cp k n A x1 x2 1
def mX6_fits_b0 (N cp k n : Nat) (A : gM) (x1 : Int32) (x2 : Int32) : Option (gM × (Nat × Nat × Nat) × Int32) :=
  (mX6_isPart cp A x1).bind fun q1 =>
  if q1.2 = 0 then
  mX6_fits_b21 N cp k n q1.1 x1 x2
  else
  (mX6_isPart cp q1.1 x2).bind fun q3 =>
  if q3.2 = 0 then
  mX6_fits_b21 N cp k n q3.1 x1 x2
  else
  mX6_fits_b22 N cp k n q3.1 x1 x2 0
def mX6_fits (N cp : Nat) (A : gM) (x1 : Int32) (x2 : Int32) : Option (gM × (Nat × Nat × Nat) × Int32) := mX6_fits_b0 N cp 0 0 A x1 x2
set_option maxHeartbeats 2000000 in
set_option maxRecDepth 20000 in
theorem oX6_fits_b58 {N : Nat} {A' : gM} {u : Nat × Nat × Nat} {r : Int32}  {cp k n : Nat} {A : gM} (h : mX6_fits_b58 N cp k n A = some (A', u, r)) : k ≤ u.2.1 ∧ n ≤ u.2.2 := by
  unfold mX6_fits_b58 at h
  obtain ⟨hz1, h⟩ := g_gd h
  obtain ⟨rfl, h2⟩ := Prod.mk.inj (Option.some.inj h)
  obtain ⟨rfl, rfl⟩ := Prod.mk.inj h2
  exact ⟨Nat.le_refl _, Nat.le_refl _⟩

set_option maxHeartbeats 2000000 in
set_option maxRecDepth 20000 in
theorem wX6_fits_b58 (hN : 193 ≤ N)  {A0 A' : gM} {u : Nat × Nat × Nat} {r : Int32} (C : gC p (g_rmx 1513 u.2.1 u.2.2) s m args meth c cX6_fits RX6 14 D g (va_A (gw g ad0 ln0 A0 N) s.heap.size) 1513) (hr : meth.sig.returnType = some .boolean)  {cp k n : Nat} (hch : g_chg N ad0 ln0 ad ln cp) {A : gM} (h : mX6_fits_b58 N cp k n A = some (A', u, r)) : gJ p l e (g_rmx 1513 u.2.1 u.2.2) s m args below meth c (gEAi below D g N ad0 ln0 A0 A' u r args s) 14 D g (va_A (gw g ad0 ln0 A0 N) s.heap.size) (N + 2) ad ln A [] k n 58 [] := by
  have hkn := oX6_fits_b58 h
  unfold mX6_fits_b58 at h
  refine g_iconst (v := 0) C dX6_fits_58 (by decide) ?_
  obtain ⟨hz1, h⟩ := g_gd h
  obtain ⟨rfl, h2⟩ := Prod.mk.inj (Option.some.inj h)
  obtain ⟨rfl, rfl⟩ := Prod.mk.inj h2
  refine g_drop ?_
  refine g_drop ?_
  exact g_retAz C hch hr hz1 dX6_fits_59

set_option maxHeartbeats 2000000 in
set_option maxRecDepth 20000 in
theorem oX6_fits_b218 {N : Nat} {A' : gM} {u : Nat × Nat × Nat} {r : Int32} {K103 : Nat → Nat → Nat → gM → Nat → Nat → Int32 → Nat → Int32 → Int32 → Option (gM × (Nat × Nat × Nat) × Int32)} (oK103 : ∀ {cp k n : Nat} {A : gM} {wx4 : Nat} {wx5 : Nat} {x6 : Int32} {wx7 : Nat} {x8 : Int32} {x9 : Int32}, K103 cp k n A wx4 wx5 x6 wx7 x8 x9 = some (A', u, r) → k ≤ u.2.1 ∧ n ≤ u.2.2) {cp k n : Nat} {A : gM} {wx4 : Nat} {wx5 : Nat} {x6 : Int32} {wx7 : Nat} {x8 : Int32} {x9 : Int32} (h : mX6_fits_b218 N cp k n K103 A wx4 wx5 x6 wx7 x8 x9 = some (A', u, r)) : k ≤ u.2.1 ∧ n ≤ u.2.2 := by
  unfold mX6_fits_b218 at h
  obtain ⟨v1, ev1, h⟩ := g_lt h
  exact oK103 h

set_option maxHeartbeats 2000000 in
set_option maxRecDepth 20000 in
theorem wX6_fits_b218 (hN : 193 ≤ N)  {A0 A' : gM} {u : Nat × Nat × Nat} {r : Int32} (C : gC p (g_rmx 1513 u.2.1 u.2.2) s m args meth c cX6_fits RX6 14 D g (va_A (gw g ad0 ln0 A0 N) s.heap.size) 1513) (hr : meth.sig.returnType = some .boolean) {K103 : Nat → Nat → Nat → gM → Nat → Nat → Int32 → Nat → Int32 → Int32 → Option (gM × (Nat × Nat × Nat) × Int32)} (hK103 : ∀ {ad ln : Nat → Nat} {cp k n : Nat} (_ : g_chg N ad0 ln0 ad ln cp) {A : gM} {wx4 : Nat} {wx5 : Nat} {x6 : Int32} {wx7 : Nat} {x8 : Int32} {x9 : Int32} (_ : g_ln ln (N + 1) = wx4) (_ : g_ln ln (N + 2) = wx5) (_ : g_ln ln N = wx7), K103 cp k n A wx4 wx5 x6 wx7 x8 x9 = some (A', u, r) → gJ p l e (g_rmx 1513 u.2.1 u.2.2) s m args below meth c (gEAi below D g N ad0 ln0 A0 A' u r args s) 14 D g (va_A (gw g ad0 ln0 A0 N) s.heap.size) (N + 3) ad ln A [(4, gr (N + 1)), (5, gr (N + 2)), (6, gi x6), (7, gr N), (8, gi x8), (9, gi x9)] k n 103 []) (oK103 : ∀ {cp k n : Nat} {A : gM} {wx4 : Nat} {wx5 : Nat} {x6 : Int32} {wx7 : Nat} {x8 : Int32} {x9 : Int32}, K103 cp k n A wx4 wx5 x6 wx7 x8 x9 = some (A', u, r) → k ≤ u.2.1 ∧ n ≤ u.2.2) {cp k n : Nat} (hch : g_chg N ad0 ln0 ad ln cp) {A : gM} {wx4 : Nat} {wx5 : Nat} {x6 : Int32} {wx7 : Nat} {x8 : Int32} {x9 : Int32} (hwx4 : g_ln ln (N + 1) = wx4) (hwx5 : g_ln ln (N + 2) = wx5) (hwx7 : g_ln ln N = wx7) (h : mX6_fits_b218 N cp k n K103 A wx4 wx5 x6 wx7 x8 x9 = some (A', u, r)) : gJ p l e (g_rmx 1513 u.2.1 u.2.2) s m args below meth c (gEAi below D g N ad0 ln0 A0 A' u r args s) 14 D g (va_A (gw g ad0 ln0 A0 N) s.heap.size) (N + 3) ad ln A [(4, gr (N + 1)), (5, gr (N + 2)), (6, gi x6), (7, gr N), (8, gi x8), (9, gi x9)] k n 218 [] := by
  have hkn := oX6_fits_b218 oK103 h
  unfold mX6_fits_b218 at h
  obtain ⟨v1, ev1, h⟩ := g_lt h
  refine g_iinc C 5 dX6_fits_218 rfl ev1 (by decide) rfl ?_
  refine g_goto C dX6_fits_221 (tgt := 103) (by decide) ?_
  refine g_sub [1, 2, 3, 4, 5, 0] rfl ?_
  exact hK103 hch hwx4 hwx5 hwx7 h

set_option maxHeartbeats 2000000 in
set_option maxRecDepth 20000 in
theorem oX6_fits_b177 {N : Nat} {A' : gM} {u : Nat × Nat × Nat} {r : Int32} {K103 : Nat → Nat → Nat → gM → Nat → Nat → Int32 → Nat → Int32 → Int32 → Option (gM × (Nat × Nat × Nat) × Int32)} {K177 : Nat → Nat → Nat → gM → Nat → Nat → Int32 → Nat → Int32 → Int32 → Int32 → Int32 → Int32 → Option (gM × (Nat × Nat × Nat) × Int32)} (oK103 : ∀ {cp k n : Nat} {A : gM} {wx4 : Nat} {wx5 : Nat} {x6 : Int32} {wx7 : Nat} {x8 : Int32} {x9 : Int32}, K103 cp k n A wx4 wx5 x6 wx7 x8 x9 = some (A', u, r) → k ≤ u.2.1 ∧ n ≤ u.2.2) (oK177 : ∀ {cp k n : Nat} {A : gM} {wx4 : Nat} {wx5 : Nat} {x6 : Int32} {wx7 : Nat} {x8 : Int32} {x9 : Int32} {x11 : Int32} {x12 : Int32} {x13 : Int32}, K177 cp k n A wx4 wx5 x6 wx7 x8 x9 x11 x12 x13 = some (A', u, r) → k ≤ u.2.1 ∧ n ≤ u.2.2) {cp k n : Nat} {A : gM} {wx4 : Nat} {wx5 : Nat} {x6 : Int32} {wx7 : Nat} {x8 : Int32} {x9 : Int32} {x11 : Int32} {x12 : Int32} {x13 : Int32} (h : mX6_fits_b177 N cp k n K103 K177 A wx4 wx5 x6 wx7 x8 x9 x11 x12 x13 = some (A', u, r)) : k ≤ u.2.1 ∧ n ≤ u.2.2 := by
  unfold mX6_fits_b177 at h
  by_cases c1 : (x11 - x6) ≤ x13
  · have h := g_tt c1 h
    exact oX6_fits_b218 oK103 h
  · have h := g_ff c1 h
    obtain ⟨hg2, h⟩ := g_gd h
    obtain ⟨hg3, h⟩ := g_gd h
    by_cases c4 : (A (N + 1) (x12 + x13).toNatClampNeg) = (A (N + 1) (x6 + x13).toNatClampNeg)
    · have h := g_tt c4 h
      obtain ⟨v5, ev5, h⟩ := g_lt h
      exact oK177 h
    · have h := g_ff c4 h
      obtain ⟨hz6, h⟩ := g_gd h
      obtain ⟨rfl, h2⟩ := Prod.mk.inj (Option.some.inj h)
      obtain ⟨rfl, rfl⟩ := Prod.mk.inj h2
      exact ⟨Nat.le_refl _, Nat.le_refl _⟩

set_option maxHeartbeats 2000000 in
set_option maxRecDepth 20000 in
theorem wX6_fits_b177 (hN : 193 ≤ N)  {A0 A' : gM} {u : Nat × Nat × Nat} {r : Int32} (C : gC p (g_rmx 1513 u.2.1 u.2.2) s m args meth c cX6_fits RX6 14 D g (va_A (gw g ad0 ln0 A0 N) s.heap.size) 1513) (hr : meth.sig.returnType = some .boolean) {K103 : Nat → Nat → Nat → gM → Nat → Nat → Int32 → Nat → Int32 → Int32 → Option (gM × (Nat × Nat × Nat) × Int32)} {K177 : Nat → Nat → Nat → gM → Nat → Nat → Int32 → Nat → Int32 → Int32 → Int32 → Int32 → Int32 → Option (gM × (Nat × Nat × Nat) × Int32)} (hK103 : ∀ {ad ln : Nat → Nat} {cp k n : Nat} (_ : g_chg N ad0 ln0 ad ln cp) {A : gM} {wx4 : Nat} {wx5 : Nat} {x6 : Int32} {wx7 : Nat} {x8 : Int32} {x9 : Int32} (_ : g_ln ln (N + 1) = wx4) (_ : g_ln ln (N + 2) = wx5) (_ : g_ln ln N = wx7), K103 cp k n A wx4 wx5 x6 wx7 x8 x9 = some (A', u, r) → gJ p l e (g_rmx 1513 u.2.1 u.2.2) s m args below meth c (gEAi below D g N ad0 ln0 A0 A' u r args s) 14 D g (va_A (gw g ad0 ln0 A0 N) s.heap.size) (N + 3) ad ln A [(4, gr (N + 1)), (5, gr (N + 2)), (6, gi x6), (7, gr N), (8, gi x8), (9, gi x9)] k n 103 []) (oK103 : ∀ {cp k n : Nat} {A : gM} {wx4 : Nat} {wx5 : Nat} {x6 : Int32} {wx7 : Nat} {x8 : Int32} {x9 : Int32}, K103 cp k n A wx4 wx5 x6 wx7 x8 x9 = some (A', u, r) → k ≤ u.2.1 ∧ n ≤ u.2.2) (hK177 : ∀ {ad ln : Nat → Nat} {cp k n : Nat} (_ : g_chg N ad0 ln0 ad ln cp) {A : gM} {wx4 : Nat} {wx5 : Nat} {x6 : Int32} {wx7 : Nat} {x8 : Int32} {x9 : Int32} {x11 : Int32} {x12 : Int32} {x13 : Int32} (_ : g_ln ln (N + 1) = wx4) (_ : g_ln ln (N + 2) = wx5) (_ : g_ln ln N = wx7), K177 cp k n A wx4 wx5 x6 wx7 x8 x9 x11 x12 x13 = some (A', u, r) → gJ p l e (g_rmx 1513 u.2.1 u.2.2) s m args below meth c (gEAi below D g N ad0 ln0 A0 A' u r args s) 14 D g (va_A (gw g ad0 ln0 A0 N) s.heap.size) (N + 3) ad ln A [(4, gr (N + 1)), (5, gr (N + 2)), (6, gi x6), (7, gr N), (8, gi x8), (9, gi x9), (11, gi x11), (12, gi x12), (13, gi x13)] k n 177 []) (oK177 : ∀ {cp k n : Nat} {A : gM} {wx4 : Nat} {wx5 : Nat} {x6 : Int32} {wx7 : Nat} {x8 : Int32} {x9 : Int32} {x11 : Int32} {x12 : Int32} {x13 : Int32}, K177 cp k n A wx4 wx5 x6 wx7 x8 x9 x11 x12 x13 = some (A', u, r) → k ≤ u.2.1 ∧ n ≤ u.2.2) {cp k n : Nat} (hch : g_chg N ad0 ln0 ad ln cp) {A : gM} {wx4 : Nat} {wx5 : Nat} {x6 : Int32} {wx7 : Nat} {x8 : Int32} {x9 : Int32} {x11 : Int32} {x12 : Int32} {x13 : Int32} (hwx4 : g_ln ln (N + 1) = wx4) (hwx5 : g_ln ln (N + 2) = wx5) (hwx7 : g_ln ln N = wx7) (h : mX6_fits_b177 N cp k n K103 K177 A wx4 wx5 x6 wx7 x8 x9 x11 x12 x13 = some (A', u, r)) : gJ p l e (g_rmx 1513 u.2.1 u.2.2) s m args below meth c (gEAi below D g N ad0 ln0 A0 A' u r args s) 14 D g (va_A (gw g ad0 ln0 A0 N) s.heap.size) (N + 3) ad ln A [(4, gr (N + 1)), (5, gr (N + 2)), (6, gi x6), (7, gr N), (8, gi x8), (9, gi x9), (11, gi x11), (12, gi x12), (13, gi x13)] k n 177 [] := by
  have hkn := oX6_fits_b177 oK103 oK177 h
  unfold mX6_fits_b177 at h
  refine g_iload C 8 dX6_fits_177 rfl ?_
  refine g_iload C 6 dX6_fits_179 rfl ?_
  refine g_iload C 2 dX6_fits_181 rfl ?_
  refine g_isub C dX6_fits_183 ?_
  refine g_icmp_ge C dX6_fits_184 (tgt := 214) (by decide) (fun c1 => ?_) (fun c1 => ?_)
  · have h := g_tt c1 h
    refine g_iload C 6 dX6_fits_214 rfl ?_
    refine g_istore C dX6_fits_216 (by decide) rfl ?_
    refine g_sub [1, 2, 0, 3, 4, 5] rfl ?_
    exact wX6_fits_b218 hN C hr hK103 oK103 hch hwx4 hwx5 hwx7 h
  · have h := g_ff c1 h
    refine g_aload C 0 dX6_fits_187 rfl ?_
    refine g_iload C 7 dX6_fits_189 rfl ?_
    refine g_iload C 8 dX6_fits_191 rfl ?_
    refine g_iadd C dX6_fits_193 ?_
    obtain ⟨hg2, h⟩ := g_gd h
    refine g_iald C (N + 1) (by omega) (g_isI_big (by omega)) hwx4 hg2 dX6_fits_194 ?_
    refine g_aload C 0 dX6_fits_195 rfl ?_
    refine g_iload C 2 dX6_fits_197 rfl ?_
    refine g_iload C 8 dX6_fits_199 rfl ?_
    refine g_iadd C dX6_fits_201 ?_
    obtain ⟨hg3, h⟩ := g_gd h
    refine g_iald C (N + 1) (by omega) (g_isI_big (by omega)) hwx4 hg3 dX6_fits_202 ?_
    refine g_icmp_eq C dX6_fits_203 (tgt := 208) (by decide) (fun c4 => ?_) (fun c4 => ?_)
    · have h := g_tt c4 h
      obtain ⟨v5, ev5, h⟩ := g_lt h
      refine g_iinc C 8 dX6_fits_208 rfl ev5 (by decide) rfl ?_
      refine g_goto C dX6_fits_211 (tgt := 177) (by decide) ?_
      refine g_sub [1, 2, 3, 4, 5, 6, 7, 8, 0] rfl ?_
      exact hK177 hch hwx4 hwx5 hwx7 h
    · have h := g_ff c4 h
      refine g_iconst (v := 0) C dX6_fits_206 (by decide) ?_
      obtain ⟨hz6, h⟩ := g_gd h
      obtain ⟨rfl, h2⟩ := Prod.mk.inj (Option.some.inj h)
      obtain ⟨rfl, rfl⟩ := Prod.mk.inj h2
      refine g_drop ?_
      refine g_drop ?_
      refine g_drop ?_
      exact g_retAz C hch hr hz6 dX6_fits_207

set_option maxHeartbeats 2000000 in
set_option maxRecDepth 20000 in
theorem oX6_fits_L177 {N : Nat} {A' : gM} {u : Nat × Nat × Nat} {r : Int32} {K103 : Nat → Nat → Nat → gM → Nat → Nat → Int32 → Nat → Int32 → Int32 → Option (gM × (Nat × Nat × Nat) × Int32)} (oK103 : ∀ {cp k n : Nat} {A : gM} {wx4 : Nat} {wx5 : Nat} {x6 : Int32} {wx7 : Nat} {x8 : Int32} {x9 : Int32}, K103 cp k n A wx4 wx5 x6 wx7 x8 x9 = some (A', u, r) → k ≤ u.2.1 ∧ n ≤ u.2.2) : ∀ (f : Nat) {cp k n : Nat} {A : gM} {wx4 : Nat} {wx5 : Nat} {x6 : Int32} {wx7 : Nat} {x8 : Int32} {x9 : Int32} {x11 : Int32} {x12 : Int32} {x13 : Int32}, mX6_fits_L177 N K103 f cp k n A wx4 wx5 x6 wx7 x8 x9 x11 x12 x13 = some (A', u, r) → k ≤ u.2.1 ∧ n ≤ u.2.2
  | 0, _, _, _, A, wx4, wx5, x6, wx7, x8, x9, x11, x12, x13, h => by cases h
  | f + 1, cp, k, n, A, wx4, wx5, x6, wx7, x8, x9, x11, x12, x13, h => oX6_fits_b177 (K177 := mX6_fits_L177 N K103 f) oK103 (fun h => oX6_fits_L177 oK103 f h) h
set_option maxHeartbeats 2000000 in
set_option maxRecDepth 20000 in
theorem wX6_fits_L177 (hN : 193 ≤ N)  {A0 A' : gM} {u : Nat × Nat × Nat} {r : Int32} (C : gC p (g_rmx 1513 u.2.1 u.2.2) s m args meth c cX6_fits RX6 14 D g (va_A (gw g ad0 ln0 A0 N) s.heap.size) 1513) (hr : meth.sig.returnType = some .boolean) {K103 : Nat → Nat → Nat → gM → Nat → Nat → Int32 → Nat → Int32 → Int32 → Option (gM × (Nat × Nat × Nat) × Int32)} (hK103 : ∀ {ad ln : Nat → Nat} {cp k n : Nat} (_ : g_chg N ad0 ln0 ad ln cp) {A : gM} {wx4 : Nat} {wx5 : Nat} {x6 : Int32} {wx7 : Nat} {x8 : Int32} {x9 : Int32} (_ : g_ln ln (N + 1) = wx4) (_ : g_ln ln (N + 2) = wx5) (_ : g_ln ln N = wx7), K103 cp k n A wx4 wx5 x6 wx7 x8 x9 = some (A', u, r) → gJ p l e (g_rmx 1513 u.2.1 u.2.2) s m args below meth c (gEAi below D g N ad0 ln0 A0 A' u r args s) 14 D g (va_A (gw g ad0 ln0 A0 N) s.heap.size) (N + 3) ad ln A [(4, gr (N + 1)), (5, gr (N + 2)), (6, gi x6), (7, gr N), (8, gi x8), (9, gi x9)] k n 103 []) (oK103 : ∀ {cp k n : Nat} {A : gM} {wx4 : Nat} {wx5 : Nat} {x6 : Int32} {wx7 : Nat} {x8 : Int32} {x9 : Int32}, K103 cp k n A wx4 wx5 x6 wx7 x8 x9 = some (A', u, r) → k ≤ u.2.1 ∧ n ≤ u.2.2) : ∀ (f : Nat) {ad ln : Nat → Nat} {cp k n : Nat} (_ : g_chg N ad0 ln0 ad ln cp) {A : gM} {wx4 : Nat} {wx5 : Nat} {x6 : Int32} {wx7 : Nat} {x8 : Int32} {x9 : Int32} {x11 : Int32} {x12 : Int32} {x13 : Int32} (_ : g_ln ln (N + 1) = wx4) (_ : g_ln ln (N + 2) = wx5) (_ : g_ln ln N = wx7), mX6_fits_L177 N K103 f cp k n A wx4 wx5 x6 wx7 x8 x9 x11 x12 x13 = some (A', u, r) → gJ p l e (g_rmx 1513 u.2.1 u.2.2) s m args below meth c (gEAi below D g N ad0 ln0 A0 A' u r args s) 14 D g (va_A (gw g ad0 ln0 A0 N) s.heap.size) (N + 3) ad ln A [(4, gr (N + 1)), (5, gr (N + 2)), (6, gi x6), (7, gr N), (8, gi x8), (9, gi x9), (11, gi x11), (12, gi x12), (13, gi x13)] k n 177 []
  | 0, ad, ln, cp, k, n, hch, A, wx4, wx5, x6, wx7, x8, x9, x11, x12, x13, hwx4, hwx5, hwx7, h => by cases h
  | f + 1, ad, ln, cp, k, n, hch, A, wx4, wx5, x6, wx7, x8, x9, x11, x12, x13, hwx4, hwx5, hwx7, h => wX6_fits_b177 (K177 := mX6_fits_L177 N K103 f) hN C hr hK103 oK103 (fun {ad ln} {cp k n} hch {A} {wx4} {wx5} {x6} {wx7} {x8} {x9} {x11} {x12} {x13} hwx4 hwx5 hwx7 h => wX6_fits_L177 hN C hr hK103 oK103 f hch hwx4 hwx5 hwx7 h) (fun h => oX6_fits_L177 oK103 f h) hch hwx4 hwx5 hwx7 h
set_option maxHeartbeats 2000000 in
set_option maxRecDepth 20000 in
theorem oX6_fits_b167 {N : Nat} {A' : gM} {u : Nat × Nat × Nat} {r : Int32} {K103 : Nat → Nat → Nat → gM → Nat → Nat → Int32 → Nat → Int32 → Int32 → Option (gM × (Nat × Nat × Nat) × Int32)} (oK103 : ∀ {cp k n : Nat} {A : gM} {wx4 : Nat} {wx5 : Nat} {x6 : Int32} {wx7 : Nat} {x8 : Int32} {x9 : Int32}, K103 cp k n A wx4 wx5 x6 wx7 x8 x9 = some (A', u, r) → k ≤ u.2.1 ∧ n ≤ u.2.2) {cp k n : Nat} {A : gM} {wx4 : Nat} {wx5 : Nat} {x6 : Int32} {wx7 : Nat} {x8 : Int32} {x9 : Int32} {x10 : Int32} {x11 : Int32} (h : mX6_fits_b167 N cp k n K103 A wx4 wx5 x6 wx7 x8 x9 x10 x11 = some (A', u, r)) : k ≤ u.2.1 ∧ n ≤ u.2.2 := by
  unfold mX6_fits_b167 at h
  obtain ⟨hg1, h⟩ := g_gd h
  obtain ⟨v2, ev2, h⟩ := g_lt h
  exact oX6_fits_L177 oK103 gF h

set_option maxHeartbeats 2000000 in
set_option maxRecDepth 20000 in
theorem wX6_fits_b167 (hN : 193 ≤ N)  {A0 A' : gM} {u : Nat × Nat × Nat} {r : Int32} (C : gC p (g_rmx 1513 u.2.1 u.2.2) s m args meth c cX6_fits RX6 14 D g (va_A (gw g ad0 ln0 A0 N) s.heap.size) 1513) (hr : meth.sig.returnType = some .boolean) {K103 : Nat → Nat → Nat → gM → Nat → Nat → Int32 → Nat → Int32 → Int32 → Option (gM × (Nat × Nat × Nat) × Int32)} (hK103 : ∀ {ad ln : Nat → Nat} {cp k n : Nat} (_ : g_chg N ad0 ln0 ad ln cp) {A : gM} {wx4 : Nat} {wx5 : Nat} {x6 : Int32} {wx7 : Nat} {x8 : Int32} {x9 : Int32} (_ : g_ln ln (N + 1) = wx4) (_ : g_ln ln (N + 2) = wx5) (_ : g_ln ln N = wx7), K103 cp k n A wx4 wx5 x6 wx7 x8 x9 = some (A', u, r) → gJ p l e (g_rmx 1513 u.2.1 u.2.2) s m args below meth c (gEAi below D g N ad0 ln0 A0 A' u r args s) 14 D g (va_A (gw g ad0 ln0 A0 N) s.heap.size) (N + 3) ad ln A [(4, gr (N + 1)), (5, gr (N + 2)), (6, gi x6), (7, gr N), (8, gi x8), (9, gi x9)] k n 103 []) (oK103 : ∀ {cp k n : Nat} {A : gM} {wx4 : Nat} {wx5 : Nat} {x6 : Int32} {wx7 : Nat} {x8 : Int32} {x9 : Int32}, K103 cp k n A wx4 wx5 x6 wx7 x8 x9 = some (A', u, r) → k ≤ u.2.1 ∧ n ≤ u.2.2) {cp k n : Nat} (hch : g_chg N ad0 ln0 ad ln cp) {A : gM} {wx4 : Nat} {wx5 : Nat} {x6 : Int32} {wx7 : Nat} {x8 : Int32} {x9 : Int32} {x10 : Int32} {x11 : Int32} (hwx4 : g_ln ln (N + 1) = wx4) (hwx5 : g_ln ln (N + 2) = wx5) (hwx7 : g_ln ln N = wx7) (h : mX6_fits_b167 N cp k n K103 A wx4 wx5 x6 wx7 x8 x9 x10 x11 = some (A', u, r)) : gJ p l e (g_rmx 1513 u.2.1 u.2.2) s m args below meth c (gEAi below D g N ad0 ln0 A0 A' u r args s) 14 D g (va_A (gw g ad0 ln0 A0 N) s.heap.size) (N + 3) ad ln A [(4, gr (N + 1)), (5, gr (N + 2)), (6, gi x6), (7, gr N), (8, gi x8), (9, gi x9), (10, gi x10), (11, gi x11)] k n 167 [] := by
  have hkn := oX6_fits_b167 oK103 h
  unfold mX6_fits_b167 at h
  refine g_aload C 1 dX6_fits_167 rfl ?_
  refine g_iload C 6 dX6_fits_169 rfl ?_
  obtain ⟨hg1, h⟩ := g_gd h
  refine g_iald C (N + 2) (by omega) (g_isI_big (by omega)) hwx5 hg1 dX6_fits_171 ?_
  obtain ⟨v2, ev2, h⟩ := g_lt h
  refine g_topi ev2 ?_
  refine g_istore C dX6_fits_172 (by decide) rfl ?_
  refine g_iconst (v := 0) C dX6_fits_174 (by decide) ?_
  refine g_istore C dX6_fits_175 (by decide) rfl ?_
  refine g_sub [2, 3, 4, 5, 6, 7, 9, 1, 0] rfl ?_
  exact wX6_fits_L177 hN C hr hK103 oK103 gF hch hwx4 hwx5 hwx7 h

set_option maxHeartbeats 2000000 in
set_option maxRecDepth 20000 in
theorem oX6_fits_b103 {N : Nat} {A' : gM} {u : Nat × Nat × Nat} {r : Int32} {K103 : Nat → Nat → Nat → gM → Nat → Nat → Int32 → Nat → Int32 → Int32 → Option (gM × (Nat × Nat × Nat) × Int32)} (oK103 : ∀ {cp k n : Nat} {A : gM} {wx4 : Nat} {wx5 : Nat} {x6 : Int32} {wx7 : Nat} {x8 : Int32} {x9 : Int32}, K103 cp k n A wx4 wx5 x6 wx7 x8 x9 = some (A', u, r) → k ≤ u.2.1 ∧ n ≤ u.2.2) {cp k n : Nat} {A : gM} {wx4 : Nat} {wx5 : Nat} {x6 : Int32} {wx7 : Nat} {x8 : Int32} {x9 : Int32} (h : mX6_fits_b103 N cp k n K103 A wx4 wx5 x6 wx7 x8 x9 = some (A', u, r)) : k ≤ u.2.1 ∧ n ≤ u.2.2 := by
  unfold mX6_fits_b103 at h
  by_cases c1 : x8 ≤ x9
  · have h := g_tt c1 h
    obtain ⟨hz2, h⟩ := g_gd h
    obtain ⟨rfl, h2⟩ := Prod.mk.inj (Option.some.inj h)
    obtain ⟨rfl, rfl⟩ := Prod.mk.inj h2
    exact ⟨Nat.le_refl _, Nat.le_refl _⟩
  · have h := g_ff c1 h
    obtain ⟨hg3, h⟩ := g_gd h
    obtain ⟨v4, ev4, h⟩ := g_lt h
    obtain ⟨q5, eq5, h⟩ := g_bd h
    by_cases c6 : 10 ≤ v4
    · have h := g_tt c6 h
      obtain ⟨hg7, h⟩ := g_gd h
      by_cases c8 : (q5.1 (N + 2) v4.toNatClampNeg) = (-1)
      · have h := g_tt c8 h
        obtain ⟨hg9, h⟩ := g_gd h
        obtain ⟨A10, eA10, h⟩ := g_lt h
        exact oX6_fits_b167 oK103 h
      · have h := g_ff c8 h
        exact oX6_fits_b167 oK103 h
    · have h := g_ff c6 h
      obtain ⟨hg11, h⟩ := g_gd h
      by_cases c12 : (q5.1 (N + 1) x6.toNatClampNeg) = v4
      · have h := g_tt c12 h
        obtain ⟨v13, ev13, h⟩ := g_lt h
        exact oX6_fits_b218 oK103 h
      · have h := g_ff c12 h
        obtain ⟨hz14, h⟩ := g_gd h
        obtain ⟨rfl, h2⟩ := Prod.mk.inj (Option.some.inj h)
        obtain ⟨rfl, rfl⟩ := Prod.mk.inj h2
        exact ⟨Nat.le_refl _, Nat.le_refl _⟩

set_option maxHeartbeats 2000000 in
set_option maxRecDepth 20000 in
theorem wX6_fits_b103 (hN : 193 ≤ N)  {A0 A' : gM} {u : Nat × Nat × Nat} {r : Int32} (C : gC p (g_rmx 1513 u.2.1 u.2.2) s m args meth c cX6_fits RX6 14 D g (va_A (gw g ad0 ln0 A0 N) s.heap.size) 1513) (hr : meth.sig.returnType = some .boolean) {K103 : Nat → Nat → Nat → gM → Nat → Nat → Int32 → Nat → Int32 → Int32 → Option (gM × (Nat × Nat × Nat) × Int32)} (hK103 : ∀ {ad ln : Nat → Nat} {cp k n : Nat} (_ : g_chg N ad0 ln0 ad ln cp) {A : gM} {wx4 : Nat} {wx5 : Nat} {x6 : Int32} {wx7 : Nat} {x8 : Int32} {x9 : Int32} (_ : g_ln ln (N + 1) = wx4) (_ : g_ln ln (N + 2) = wx5) (_ : g_ln ln N = wx7), K103 cp k n A wx4 wx5 x6 wx7 x8 x9 = some (A', u, r) → gJ p l e (g_rmx 1513 u.2.1 u.2.2) s m args below meth c (gEAi below D g N ad0 ln0 A0 A' u r args s) 14 D g (va_A (gw g ad0 ln0 A0 N) s.heap.size) (N + 3) ad ln A [(4, gr (N + 1)), (5, gr (N + 2)), (6, gi x6), (7, gr N), (8, gi x8), (9, gi x9)] k n 103 []) (oK103 : ∀ {cp k n : Nat} {A : gM} {wx4 : Nat} {wx5 : Nat} {x6 : Int32} {wx7 : Nat} {x8 : Int32} {x9 : Int32}, K103 cp k n A wx4 wx5 x6 wx7 x8 x9 = some (A', u, r) → k ≤ u.2.1 ∧ n ≤ u.2.2) {cp k n : Nat} (hch : g_chg N ad0 ln0 ad ln cp) {A : gM} {wx4 : Nat} {wx5 : Nat} {x6 : Int32} {wx7 : Nat} {x8 : Int32} {x9 : Int32} (hwx4 : g_ln ln (N + 1) = wx4) (hwx5 : g_ln ln (N + 2) = wx5) (hwx7 : g_ln ln N = wx7) (h : mX6_fits_b103 N cp k n K103 A wx4 wx5 x6 wx7 x8 x9 = some (A', u, r)) : gJ p l e (g_rmx 1513 u.2.1 u.2.2) s m args below meth c (gEAi below D g N ad0 ln0 A0 A' u r args s) 14 D g (va_A (gw g ad0 ln0 A0 N) s.heap.size) (N + 3) ad ln A [(4, gr (N + 1)), (5, gr (N + 2)), (6, gi x6), (7, gr N), (8, gi x8), (9, gi x9)] k n 103 [] := by
  have hkn := oX6_fits_b103 oK103 h
  unfold mX6_fits_b103 at h
  refine g_iload C 5 dX6_fits_103 rfl ?_
  refine g_iload C 4 dX6_fits_105 rfl ?_
  refine g_icmp_ge C dX6_fits_107 (tgt := 224) (by decide) (fun c1 => ?_) (fun c1 => ?_)
  · have h := g_tt c1 h
    refine g_iconst (v := 1) C dX6_fits_224 (by decide) ?_
    obtain ⟨hz2, h⟩ := g_gd h
    obtain ⟨rfl, h2⟩ := Prod.mk.inj (Option.some.inj h)
    obtain ⟨rfl, rfl⟩ := Prod.mk.inj h2
    refine g_drop ?_
    refine g_drop ?_
    refine g_drop ?_
    exact g_retAz C hch hr hz2 dX6_fits_225
  · have h := g_ff c1 h
    refine g_aload C 3 dX6_fits_110 rfl ?_
    refine g_iload C 5 dX6_fits_112 rfl ?_
    obtain ⟨hg3, h⟩ := g_gd h
    refine g_iald C N (by omega) (g_isI_big (by omega)) hwx7 hg3 dX6_fits_114 ?_
    obtain ⟨v4, ev4, h⟩ := g_lt h
    refine g_topi ev4 ?_
    refine g_istore C dX6_fits_115 (by decide) rfl ?_
    refine g_aload C 1 dX6_fits_117 rfl ?_
    refine g_iload C 3 dX6_fits_119 rfl ?_
    obtain ⟨q5, eq5, h⟩ := g_bd h
    refine g_calliS C [gr (N + 1), gi x6] (kX6_behind (by omega) hch.2 62 ⟨(by omega), (g_isI_big (by omega)), hwx4⟩ eq5) qs_X6_198 (by omega) rfl rfl (Nat.le_of_ble_eq_true rfl) hkn dX6_fits_121 ?_
    refine g_istore C dX6_fits_124 (by decide) rfl ?_
    refine g_iload C 1 dX6_fits_126 rfl ?_
    refine g_bipush (v := 10) C dX6_fits_128 (by decide) ?_
    refine g_icmp_ge C dX6_fits_130 (tgt := 151) (by decide) (fun c6 => ?_) (fun c6 => ?_)
    · have h := g_tt c6 h
      refine g_aload C 3 dX6_fits_151 rfl ?_
      refine g_iload C 1 dX6_fits_153 rfl ?_
      obtain ⟨hg7, h⟩ := g_gd h
      refine g_iald C (N + 2) (by omega) (g_isI_big (by omega)) hwx5 hg7 dX6_fits_155 ?_
      refine g_iconst (v := (-1)) C dX6_fits_156 (by decide) ?_
      refine g_icmp_ne C dX6_fits_157 (tgt := 167) (by decide) (fun c8 => ?_) (fun c8 => ?_)
      · have h := g_ff c8 h
        refine g_sub [2, 3, 4, 5, 6, 7, 1, 0] rfl ?_
        exact wX6_fits_b167 hN C hr hK103 oK103 hch hwx4 hwx5 hwx7 h
      · have h := g_tt c8 h
        refine g_aload C 3 dX6_fits_160 rfl ?_
        refine g_iload C 1 dX6_fits_162 rfl ?_
        refine g_iload C 4 dX6_fits_164 rfl ?_
        obtain ⟨hg9, h⟩ := g_gd h
        obtain ⟨A10, eA10, h⟩ := g_lt h
        refine g_iast C (N + 2) (by omega) (g_isI_big (by omega)) hwx5 hg9 eA10 dX6_fits_166 ?_
        refine g_sub [2, 3, 4, 5, 6, 7, 1, 0] rfl ?_
        exact wX6_fits_b167 hN C hr hK103 oK103 hch hwx4 hwx5 hwx7 h
    · have h := g_ff c6 h
      refine g_aload C 2 dX6_fits_133 rfl ?_
      refine g_iload C 4 dX6_fits_135 rfl ?_
      obtain ⟨hg11, h⟩ := g_gd h
      refine g_iald C (N + 1) (by omega) (g_isI_big (by omega)) hwx4 hg11 dX6_fits_137 ?_
      refine g_iload C 1 dX6_fits_138 rfl ?_
      refine g_icmp_eq C dX6_fits_140 (tgt := 145) (by decide) (fun c12 => ?_) (fun c12 => ?_)
      · have h := g_tt c12 h
        obtain ⟨v13, ev13, h⟩ := g_lt h
        refine g_iinc C 4 dX6_fits_145 rfl ev13 (by decide) rfl ?_
        refine g_goto C dX6_fits_148 (tgt := 218) (by decide) ?_
        refine g_sub [3, 4, 0, 5, 6, 7] rfl ?_
        exact wX6_fits_b218 hN C hr hK103 oK103 hch hwx4 hwx5 hwx7 h
      · have h := g_ff c12 h
        refine g_iconst (v := 0) C dX6_fits_143 (by decide) ?_
        obtain ⟨hz14, h⟩ := g_gd h
        obtain ⟨rfl, h2⟩ := Prod.mk.inj (Option.some.inj h)
        obtain ⟨rfl, rfl⟩ := Prod.mk.inj h2
        refine g_drop ?_
        refine g_drop ?_
        refine g_drop ?_
        exact g_retAz C hch hr hz14 dX6_fits_144

set_option maxHeartbeats 2000000 in
set_option maxRecDepth 20000 in
theorem oX6_fits_L103 {N : Nat} {A' : gM} {u : Nat × Nat × Nat} {r : Int32}  : ∀ (f : Nat) {cp k n : Nat} {A : gM} {wx4 : Nat} {wx5 : Nat} {x6 : Int32} {wx7 : Nat} {x8 : Int32} {x9 : Int32}, mX6_fits_L103 N f cp k n A wx4 wx5 x6 wx7 x8 x9 = some (A', u, r) → k ≤ u.2.1 ∧ n ≤ u.2.2
  | 0, _, _, _, A, wx4, wx5, x6, wx7, x8, x9, h => by cases h
  | f + 1, cp, k, n, A, wx4, wx5, x6, wx7, x8, x9, h => oX6_fits_b103 (K103 := mX6_fits_L103 N f) (fun h => oX6_fits_L103 f h) h
set_option maxHeartbeats 2000000 in
set_option maxRecDepth 20000 in
theorem wX6_fits_L103 (hN : 193 ≤ N)  {A0 A' : gM} {u : Nat × Nat × Nat} {r : Int32} (C : gC p (g_rmx 1513 u.2.1 u.2.2) s m args meth c cX6_fits RX6 14 D g (va_A (gw g ad0 ln0 A0 N) s.heap.size) 1513) (hr : meth.sig.returnType = some .boolean)  : ∀ (f : Nat) {ad ln : Nat → Nat} {cp k n : Nat} (_ : g_chg N ad0 ln0 ad ln cp) {A : gM} {wx4 : Nat} {wx5 : Nat} {x6 : Int32} {wx7 : Nat} {x8 : Int32} {x9 : Int32} (_ : g_ln ln (N + 1) = wx4) (_ : g_ln ln (N + 2) = wx5) (_ : g_ln ln N = wx7), mX6_fits_L103 N f cp k n A wx4 wx5 x6 wx7 x8 x9 = some (A', u, r) → gJ p l e (g_rmx 1513 u.2.1 u.2.2) s m args below meth c (gEAi below D g N ad0 ln0 A0 A' u r args s) 14 D g (va_A (gw g ad0 ln0 A0 N) s.heap.size) (N + 3) ad ln A [(4, gr (N + 1)), (5, gr (N + 2)), (6, gi x6), (7, gr N), (8, gi x8), (9, gi x9)] k n 103 []
  | 0, ad, ln, cp, k, n, hch, A, wx4, wx5, x6, wx7, x8, x9, hwx4, hwx5, hwx7, h => by cases h
  | f + 1, ad, ln, cp, k, n, hch, A, wx4, wx5, x6, wx7, x8, x9, hwx4, hwx5, hwx7, h => wX6_fits_b103 (K103 := mX6_fits_L103 N f) hN C hr (fun {ad ln} {cp k n} hch {A} {wx4} {wx5} {x6} {wx7} {x8} {x9} hwx4 hwx5 hwx7 h => wX6_fits_L103 hN C hr f hch hwx4 hwx5 hwx7 h) (fun h => oX6_fits_L103 f h) hch hwx4 hwx5 hwx7 h
set_option maxHeartbeats 2000000 in
set_option maxRecDepth 20000 in
theorem oX6_fits_b69 {N : Nat} {A' : gM} {u : Nat × Nat × Nat} {r : Int32} {K69 : Nat → Nat → Nat → gM → Nat → Nat → Nat → Int32 → Option (gM × (Nat × Nat × Nat) × Int32)} (oK69 : ∀ {cp k n : Nat} {A : gM} {wx3 : Nat} {wx4 : Nat} {wx5 : Nat} {x6 : Int32}, K69 cp k n A wx3 wx4 wx5 x6 = some (A', u, r) → k ≤ u.2.1 ∧ n ≤ u.2.2) {cp k n : Nat} {A : gM} {wx3 : Nat} {wx4 : Nat} {wx5 : Nat} {x6 : Int32} (h : mX6_fits_b69 N cp k n K69 A wx3 wx4 wx5 x6 = some (A', u, r)) : k ≤ u.2.1 ∧ n ≤ u.2.2 := by
  unfold mX6_fits_b69 at h
  by_cases c1 : (Int32.ofNat wx5) ≤ x6
  · have h := g_tt c1 h
    obtain ⟨v2, ev2, h⟩ := g_lt h
    exact oX6_fits_L103 gF h
  · have h := g_ff c1 h
    obtain ⟨hg3, h⟩ := g_gd h
    obtain ⟨A4, eA4, h⟩ := g_lt h
    obtain ⟨v5, ev5, h⟩ := g_lt h
    exact oK69 h

set_option maxHeartbeats 2000000 in
set_option maxRecDepth 20000 in
theorem wX6_fits_b69 (hN : 193 ≤ N)  {A0 A' : gM} {u : Nat × Nat × Nat} {r : Int32} (C : gC p (g_rmx 1513 u.2.1 u.2.2) s m args meth c cX6_fits RX6 14 D g (va_A (gw g ad0 ln0 A0 N) s.heap.size) 1513) (hr : meth.sig.returnType = some .boolean) {K69 : Nat → Nat → Nat → gM → Nat → Nat → Nat → Int32 → Option (gM × (Nat × Nat × Nat) × Int32)} (hK69 : ∀ {ad ln : Nat → Nat} {cp k n : Nat} (_ : g_chg N ad0 ln0 ad ln cp) {A : gM} {wx3 : Nat} {wx4 : Nat} {wx5 : Nat} {x6 : Int32} (_ : g_ln ln N = wx3) (_ : g_ln ln (N + 1) = wx4) (_ : g_ln ln (N + 2) = wx5), K69 cp k n A wx3 wx4 wx5 x6 = some (A', u, r) → gJ p l e (g_rmx 1513 u.2.1 u.2.2) s m args below meth c (gEAi below D g N ad0 ln0 A0 A' u r args s) 14 D g (va_A (gw g ad0 ln0 A0 N) s.heap.size) (N + 3) ad ln A [(3, gr N), (4, gr (N + 1)), (5, gr (N + 2)), (6, gi x6)] k n 69 []) (oK69 : ∀ {cp k n : Nat} {A : gM} {wx3 : Nat} {wx4 : Nat} {wx5 : Nat} {x6 : Int32}, K69 cp k n A wx3 wx4 wx5 x6 = some (A', u, r) → k ≤ u.2.1 ∧ n ≤ u.2.2) {cp k n : Nat} (hch : g_chg N ad0 ln0 ad ln cp) {A : gM} {wx3 : Nat} {wx4 : Nat} {wx5 : Nat} {x6 : Int32} (hwx3 : g_ln ln N = wx3) (hwx4 : g_ln ln (N + 1) = wx4) (hwx5 : g_ln ln (N + 2) = wx5) (h : mX6_fits_b69 N cp k n K69 A wx3 wx4 wx5 x6 = some (A', u, r)) : gJ p l e (g_rmx 1513 u.2.1 u.2.2) s m args below meth c (gEAi below D g N ad0 ln0 A0 A' u r args s) 14 D g (va_A (gw g ad0 ln0 A0 N) s.heap.size) (N + 3) ad ln A [(3, gr N), (4, gr (N + 1)), (5, gr (N + 2)), (6, gi x6)] k n 69 [] := by
  have hkn := oX6_fits_b69 oK69 h
  unfold mX6_fits_b69 at h
  refine g_iload C 3 dX6_fits_69 rfl ?_
  refine g_aload C 2 dX6_fits_71 rfl ?_
  refine g_alen (v := Int32.ofNat wx5) C (N + 2) (by omega) (g_isI_big (by omega)) (by rw [hwx5]) dX6_fits_73 ?_
  refine g_icmp_ge C dX6_fits_74 (tgt := 89) (by decide) (fun c1 => ?_) (fun c1 => ?_)
  · have h := g_tt c1 h
    refine g_iconst (v := 0) C dX6_fits_89 (by decide) ?_
    refine g_istore C dX6_fits_90 (by decide) rfl ?_
    refine g_aload_n C 1 dX6_fits_92 rfl ?_
    refine g_astore C dX6_fits_93 (by decide) rfl ?_
    refine g_aload C 0 dX6_fits_95 rfl ?_
    refine g_alen (v := Int32.ofNat wx3) C N (by omega) (g_isI_big (by omega)) (by rw [hwx3]) dX6_fits_97 ?_
    obtain ⟨v2, ev2, h⟩ := g_lt h
    refine g_topi ev2 ?_
    refine g_istore C dX6_fits_98 (by decide) rfl ?_
    refine g_iconst (v := 0) C dX6_fits_100 (by decide) ?_
    refine g_istore C dX6_fits_101 (by decide) rfl ?_
    refine g_sub [5, 6, 3, 2, 1, 0] rfl ?_
    exact wX6_fits_L103 hN C hr gF hch hwx4 hwx5 hwx3 h
  · have h := g_ff c1 h
    refine g_aload C 2 dX6_fits_77 rfl ?_
    refine g_iload C 3 dX6_fits_79 rfl ?_
    refine g_iconst (v := (-1)) C dX6_fits_81 (by decide) ?_
    obtain ⟨hg3, h⟩ := g_gd h
    obtain ⟨A4, eA4, h⟩ := g_lt h
    refine g_iast C (N + 2) (by omega) (g_isI_big (by omega)) hwx5 hg3 eA4 dX6_fits_82 ?_
    obtain ⟨v5, ev5, h⟩ := g_lt h
    refine g_iinc C 3 dX6_fits_83 rfl ev5 (by decide) rfl ?_
    refine g_goto C dX6_fits_86 (tgt := 69) (by decide) ?_
    refine g_sub [1, 2, 3, 0] rfl ?_
    exact hK69 hch hwx3 hwx4 hwx5 h

set_option maxHeartbeats 2000000 in
set_option maxRecDepth 20000 in
theorem oX6_fits_L69 {N : Nat} {A' : gM} {u : Nat × Nat × Nat} {r : Int32}  : ∀ (f : Nat) {cp k n : Nat} {A : gM} {wx3 : Nat} {wx4 : Nat} {wx5 : Nat} {x6 : Int32}, mX6_fits_L69 N f cp k n A wx3 wx4 wx5 x6 = some (A', u, r) → k ≤ u.2.1 ∧ n ≤ u.2.2
  | 0, _, _, _, A, wx3, wx4, wx5, x6, h => by cases h
  | f + 1, cp, k, n, A, wx3, wx4, wx5, x6, h => oX6_fits_b69 (K69 := mX6_fits_L69 N f) (fun h => oX6_fits_L69 f h) h
set_option maxHeartbeats 2000000 in
set_option maxRecDepth 20000 in
theorem wX6_fits_L69 (hN : 193 ≤ N)  {A0 A' : gM} {u : Nat × Nat × Nat} {r : Int32} (C : gC p (g_rmx 1513 u.2.1 u.2.2) s m args meth c cX6_fits RX6 14 D g (va_A (gw g ad0 ln0 A0 N) s.heap.size) 1513) (hr : meth.sig.returnType = some .boolean)  : ∀ (f : Nat) {ad ln : Nat → Nat} {cp k n : Nat} (_ : g_chg N ad0 ln0 ad ln cp) {A : gM} {wx3 : Nat} {wx4 : Nat} {wx5 : Nat} {x6 : Int32} (_ : g_ln ln N = wx3) (_ : g_ln ln (N + 1) = wx4) (_ : g_ln ln (N + 2) = wx5), mX6_fits_L69 N f cp k n A wx3 wx4 wx5 x6 = some (A', u, r) → gJ p l e (g_rmx 1513 u.2.1 u.2.2) s m args below meth c (gEAi below D g N ad0 ln0 A0 A' u r args s) 14 D g (va_A (gw g ad0 ln0 A0 N) s.heap.size) (N + 3) ad ln A [(3, gr N), (4, gr (N + 1)), (5, gr (N + 2)), (6, gi x6)] k n 69 []
  | 0, ad, ln, cp, k, n, hch, A, wx3, wx4, wx5, x6, hwx3, hwx4, hwx5, h => by cases h
  | f + 1, ad, ln, cp, k, n, hch, A, wx3, wx4, wx5, x6, hwx3, hwx4, hwx5, h => wX6_fits_b69 (K69 := mX6_fits_L69 N f) hN C hr (fun {ad ln} {cp k n} hch {A} {wx3} {wx4} {wx5} {x6} hwx3 hwx4 hwx5 h => wX6_fits_L69 hN C hr f hch hwx3 hwx4 hwx5 h) (fun h => oX6_fits_L69 f h) hch hwx3 hwx4 hwx5 h
set_option maxHeartbeats 2000000 in
set_option maxRecDepth 20000 in
theorem oX6_fits_b64 {N : Nat} {A' : gM} {u : Nat × Nat × Nat} {r : Int32}  {cp k n : Nat} {A : gM} {wx3 : Nat} {wx4 : Nat} {ws0 : Nat} (h : mX6_fits_b64 N cp k n A wx3 wx4 ws0 = some (A', u, r)) : k ≤ u.2.1 ∧ n ≤ u.2.2 := by
  unfold mX6_fits_b64 at h
  exact oX6_fits_L69 gF h

set_option maxHeartbeats 2000000 in
set_option maxRecDepth 20000 in
theorem wX6_fits_b64 (hN : 193 ≤ N)  {A0 A' : gM} {u : Nat × Nat × Nat} {r : Int32} (C : gC p (g_rmx 1513 u.2.1 u.2.2) s m args meth c cX6_fits RX6 14 D g (va_A (gw g ad0 ln0 A0 N) s.heap.size) 1513) (hr : meth.sig.returnType = some .boolean)  {cp k n : Nat} (hch : g_chg N ad0 ln0 ad ln cp) {A : gM} {wx3 : Nat} {wx4 : Nat} {ws0 : Nat} (hwx3 : g_ln ln N = wx3) (hwx4 : g_ln ln (N + 1) = wx4) (hws0 : g_ln ln (N + 2) = ws0) (h : mX6_fits_b64 N cp k n A wx3 wx4 ws0 = some (A', u, r)) : gJ p l e (g_rmx 1513 u.2.1 u.2.2) s m args below meth c (gEAi below D g N ad0 ln0 A0 A' u r args s) 14 D g (va_A (gw g ad0 ln0 A0 N) s.heap.size) (N + 3) ad ln A [(3, gr N), (4, gr (N + 1))] k n 64 [gr (N + 2)] := by
  have hkn := oX6_fits_b64 h
  unfold mX6_fits_b64 at h
  refine g_astore C dX6_fits_64 (by decide) rfl ?_
  refine g_iconst (v := 0) C dX6_fits_66 (by decide) ?_
  refine g_istore C dX6_fits_67 (by decide) rfl ?_
  refine g_sub [2, 3, 1, 0] rfl ?_
  exact wX6_fits_L69 hN C hr gF hch hwx3 hwx4 hws0 h

set_option maxHeartbeats 2000000 in
set_option maxRecDepth 20000 in
theorem oX6_fits_b45 {N : Nat} {A' : gM} {u : Nat × Nat × Nat} {r : Int32}  {cp k n : Nat} {A : gM} {wx3 : Nat} {ws0 : Nat} (h : mX6_fits_b45 N cp k n A wx3 ws0 = some (A', u, r)) : k ≤ u.2.1 ∧ n ≤ u.2.2 := by
  unfold mX6_fits_b45 at h
  by_cases c1 : (Int32.ofNat wx3) = 0
  · have h := g_tt c1 h
    exact oX6_fits_b58 h
  · have h := g_ff c1 h
    by_cases c2 : (Int32.ofNat ws0) = 0
    · have h := g_tt c2 h
      exact oX6_fits_b58 h
    · have h := g_ff c2 h
      obtain ⟨hg3, h⟩ := g_gd h
      have mo := oX6_fits_b64 h
      exact ⟨by omega, by omega⟩

set_option maxHeartbeats 2000000 in
set_option maxRecDepth 20000 in
theorem wX6_fits_b45 (hN : 193 ≤ N)  {A0 A' : gM} {u : Nat × Nat × Nat} {r : Int32} (C : gC p (g_rmx 1513 u.2.1 u.2.2) s m args meth c cX6_fits RX6 14 D g (va_A (gw g ad0 ln0 A0 N) s.heap.size) 1513) (hr : meth.sig.returnType = some .boolean)  {cp k n : Nat} (hch : g_chg N ad0 ln0 ad ln cp) {A : gM} {wx3 : Nat} {ws0 : Nat} (hwx3 : g_ln ln N = wx3) (hws0 : g_ln ln (N + 1) = ws0) (h : mX6_fits_b45 N cp k n A wx3 ws0 = some (A', u, r)) : gJ p l e (g_rmx 1513 u.2.1 u.2.2) s m args below meth c (gEAi below D g N ad0 ln0 A0 A' u r args s) 14 D g (va_A (gw g ad0 ln0 A0 N) s.heap.size) (N + 2) ad ln A [(3, gr N)] k n 45 [gr (N + 1)] := by
  have hkn := oX6_fits_b45 h
  unfold mX6_fits_b45 at h
  refine g_astore C dX6_fits_45 (by decide) rfl ?_
  refine g_aload_n C 1 dX6_fits_47 rfl ?_
  refine g_alen (v := Int32.ofNat wx3) C N (by omega) (g_isI_big (by omega)) (by rw [hwx3]) dX6_fits_48 ?_
  refine g_if_eq C dX6_fits_49 (tgt := 58) (by decide) (fun c1 => ?_) (fun c1 => ?_)
  · have h := g_tt c1 h
    refine g_sub [] rfl ?_
    exact wX6_fits_b58 hN C hr hch h
  · have h := g_ff c1 h
    refine g_aload C 0 dX6_fits_52 rfl ?_
    refine g_alen (v := Int32.ofNat ws0) C (N + 1) (by omega) (g_isI_big (by omega)) (by rw [hws0]) dX6_fits_54 ?_
    refine g_if_ne C dX6_fits_55 (tgt := 60) (by decide) (fun c2 => ?_) (fun c2 => ?_)
    · have h := g_ff c2 h
      refine g_bipush (v := 71) C dX6_fits_60 (by decide) ?_
      obtain ⟨hg3, h⟩ := g_gd h
      have mo := oX6_fits_b64 h
      refine g_newI C (N := (N + 2)) (by omega) qa_int hg3.1 rfl hg3.2 ⟨mo.1, mo.2⟩ (And.intro (by omega) (And.intro (by omega) True.intro)) True.intro dX6_fits_62 (fun q => ?_)
      have hch : g_chg N ad0 ln0 (va_up ad (N + 2) q) (va_up ln (N + 2) (71 : Int32).toNatClampNeg) cp := g_chg_new (by omega) hch
      have hws0 := g_len_new (q := (N + 1)) (w := (71 : Int32).toNatClampNeg) (by omega) (N := (N + 2)) hws0
      have hwx3 := g_len_new (q := N) (w := (71 : Int32).toNatClampNeg) (by omega) (N := (N + 2)) hwx3
      refine g_sub [1, 0] rfl ?_
      exact wX6_fits_b64 hN C hr hch hwx3 hws0 (g_len_made (N := (N + 2)) (by omega)) h
    · have h := g_tt c2 h
      refine g_sub [] rfl ?_
      exact wX6_fits_b58 hN C hr hch h

set_option maxHeartbeats 2000000 in
set_option maxRecDepth 20000 in
theorem oX6_fits_b39 {N : Nat} {A' : gM} {u : Nat × Nat × Nat} {r : Int32}  {cp k n : Nat} {A : gM} {x2 : Int32} {ws0 : Nat} (h : mX6_fits_b39 N cp k n A x2 ws0 = some (A', u, r)) : k ≤ u.2.1 ∧ n ≤ u.2.2 := by
  unfold mX6_fits_b39 at h
  obtain ⟨q1, eq1, h⟩ := g_bd h
  have mo := oX6_fits_b45 h
  exact ⟨by omega, by omega⟩

set_option maxHeartbeats 2000000 in
set_option maxRecDepth 20000 in
theorem wX6_fits_b39 (hN : 193 ≤ N)  {A0 A' : gM} {u : Nat × Nat × Nat} {r : Int32} (C : gC p (g_rmx 1513 u.2.1 u.2.2) s m args meth c cX6_fits RX6 14 D g (va_A (gw g ad0 ln0 A0 N) s.heap.size) 1513) (hr : meth.sig.returnType = some .boolean)  {cp k n : Nat} (hch : g_chg N ad0 ln0 ad ln cp) {A : gM} {x2 : Int32} {ws0 : Nat} (hws0 : g_ln ln N = ws0) (h : mX6_fits_b39 N cp k n A x2 ws0 = some (A', u, r)) : gJ p l e (g_rmx 1513 u.2.1 u.2.2) s m args below meth c (gEAi below D g N ad0 ln0 A0 A' u r args s) 14 D g (va_A (gw g ad0 ln0 A0 N) s.heap.size) (N + 1) ad ln A [(0, gr 183), (2, gi x2)] k n 39 [gr N] := by
  have hkn := oX6_fits_b39 h
  unfold mX6_fits_b39 at h
  refine g_astore_n C dX6_fits_39 (by decide) rfl ?_
  refine g_aload_n C 1 dX6_fits_40 rfl ?_
  refine g_iload_n C 2 dX6_fits_41 rfl ?_
  obtain ⟨q1, eq1, h⟩ := g_bd h
  have mo := oX6_fits_b45 h
  refine g_callArV C 183 [gi x2] (kX6_row (by omega) hch.2 eq1) qs_X6_188 (by omega) (by omega) rfl rfl rfl rfl (Nat.le_of_ble_eq_true rfl) ⟨mo.1, mo.2⟩ (And.intro ⟨by omega, by omega⟩ (And.intro ⟨by omega, by omega⟩ True.intro)) True.intro dX6_fits_42 (fun ad1 ln1 hch1 hlw => ?_)
  have hch := g_chg.trans (by omega) hch hch1
  have hws0 := g_len_chg (q := N) (by omega) (by omega) hch1 hws0
  refine g_sub [0] rfl ?_
  exact wX6_fits_b45 hN C hr hch hws0 ((g_ln_big (by omega)).trans hlw) h

set_option maxHeartbeats 2000000 in
set_option maxRecDepth 20000 in
theorem oX6_fits_b22 {N : Nat} {A' : gM} {u : Nat × Nat × Nat} {r : Int32}  {cp k n : Nat} {A : gM} {x1 : Int32} {x2 : Int32} {s1 : Int32} (h : mX6_fits_b22 N cp k n A x1 x2 s1 = some (A', u, r)) : k ≤ u.2.1 ∧ n ≤ u.2.2 := by
  unfold mX6_fits_b22 at h
  obtain ⟨A1, eA1, h⟩ := g_lt h
  by_cases c2 : (A1 183 0) = 0
  · have h := g_tt c2 h
    obtain ⟨q3, eq3, h⟩ := g_bd h
    have mo := oX6_fits_b39 h
    exact ⟨by omega, by omega⟩
  · have h := g_ff c2 h
    obtain ⟨hz4, h⟩ := g_gd h
    obtain ⟨rfl, h2⟩ := Prod.mk.inj (Option.some.inj h)
    obtain ⟨rfl, rfl⟩ := Prod.mk.inj h2
    exact ⟨Nat.le_refl _, Nat.le_refl _⟩

set_option maxHeartbeats 2000000 in
set_option maxRecDepth 20000 in
theorem wX6_fits_b22 (hN : 193 ≤ N)  {A0 A' : gM} {u : Nat × Nat × Nat} {r : Int32} (C : gC p (g_rmx 1513 u.2.1 u.2.2) s m args meth c cX6_fits RX6 14 D g (va_A (gw g ad0 ln0 A0 N) s.heap.size) 1513) (hr : meth.sig.returnType = some .boolean)  {cp k n : Nat} (hch : g_chg N ad0 ln0 ad ln cp) {A : gM} {x1 : Int32} {x2 : Int32} {s1 : Int32} (h : mX6_fits_b22 N cp k n A x1 x2 s1 = some (A', u, r)) : gJ p l e (g_rmx 1513 u.2.1 u.2.2) s m args below meth c (gEAi below D g N ad0 ln0 A0 A' u r args s) 14 D g (va_A (gw g ad0 ln0 A0 N) s.heap.size) N ad ln A [(0, gr 183), (1, gi x1), (2, gi x2)] k n 22 [gi s1, gr 183] := by
  have hkn := oX6_fits_b22 h
  unfold mX6_fits_b22 at h
  obtain ⟨A1, eA1, h⟩ := g_lt h
  refine g_put C 183 0 tyX6 tyX6_ok nmX6 (by omega) rfl rfl gu_6 (by decide) qf_X6_35 rfl (by decide +kernel) (Nat.le_of_ble_eq_true rfl) rfl eA1 dX6_fits_22 ?_
  refine g_aload_n C 0 dX6_fits_25 rfl ?_
  refine g_get (v := gi (A1 183 0)) C 183 0 (by omega) rfl rfl gu_6 (by decide) qf_X6_35 rfl dX6_fits_26 ?_
  refine g_if_eq C dX6_fits_29 (tgt := 34) (by decide) (fun c2 => ?_) (fun c2 => ?_)
  · have h := g_tt c2 h
    refine g_aload_n C 0 dX6_fits_34 rfl ?_
    refine g_iload_n C 1 dX6_fits_35 rfl ?_
    obtain ⟨q3, eq3, h⟩ := g_bd h
    have mo := oX6_fits_b39 h
    refine g_callArV C 183 [gi x1] (kX6_row hN hch.2 eq3) qs_X6_188 (by omega) (by omega) rfl rfl rfl rfl (Nat.le_of_ble_eq_true rfl) ⟨mo.1, mo.2⟩ (And.intro ⟨by omega, by omega⟩ True.intro) True.intro dX6_fits_36 (fun ad1 ln1 hch1 hlw => ?_)
    have hch := g_chg.trans (by omega) hch hch1
    refine g_sub [0, 2] rfl ?_
    exact wX6_fits_b39 hN C hr hch ((g_ln_big (by omega)).trans hlw) h
  · have h := g_ff c2 h
    refine g_iconst (v := 0) C dX6_fits_32 (by decide) ?_
    obtain ⟨hz4, h⟩ := g_gd h
    obtain ⟨rfl, h2⟩ := Prod.mk.inj (Option.some.inj h)
    obtain ⟨rfl, rfl⟩ := Prod.mk.inj h2
    exact g_retAz C hch hr hz4 dX6_fits_33

set_option maxHeartbeats 2000000 in
set_option maxRecDepth 20000 in
theorem oX6_fits_b21 {N : Nat} {A' : gM} {u : Nat × Nat × Nat} {r : Int32}  {cp k n : Nat} {A : gM} {x1 : Int32} {x2 : Int32} (h : mX6_fits_b21 N cp k n A x1 x2 = some (A', u, r)) : k ≤ u.2.1 ∧ n ≤ u.2.2 := by
  unfold mX6_fits_b21 at h
  exact oX6_fits_b22 h

set_option maxHeartbeats 2000000 in
set_option maxRecDepth 20000 in
theorem wX6_fits_b21 (hN : 193 ≤ N)  {A0 A' : gM} {u : Nat × Nat × Nat} {r : Int32} (C : gC p (g_rmx 1513 u.2.1 u.2.2) s m args meth c cX6_fits RX6 14 D g (va_A (gw g ad0 ln0 A0 N) s.heap.size) 1513) (hr : meth.sig.returnType = some .boolean)  {cp k n : Nat} (hch : g_chg N ad0 ln0 ad ln cp) {A : gM} {x1 : Int32} {x2 : Int32} (h : mX6_fits_b21 N cp k n A x1 x2 = some (A', u, r)) : gJ p l e (g_rmx 1513 u.2.1 u.2.2) s m args below meth c (gEAi below D g N ad0 ln0 A0 A' u r args s) 14 D g (va_A (gw g ad0 ln0 A0 N) s.heap.size) N ad ln A [(0, gr 183), (1, gi x1), (2, gi x2)] k n 21 [gr 183] := by
  have hkn := oX6_fits_b21 h
  unfold mX6_fits_b21 at h
  refine g_iconst (v := 1) C dX6_fits_21 (by decide) ?_
  refine g_sub [0, 1, 2] rfl ?_
  exact wX6_fits_b22 hN C hr hch h

set_option maxHeartbeats 2000000 in
set_option maxRecDepth 20000 in
theorem oX6_fits_b0 {N : Nat} {A' : gM} {u : Nat × Nat × Nat} {r : Int32}  {cp k n : Nat} {A : gM} {x1 : Int32} {x2 : Int32} (h : mX6_fits_b0 N cp k n A x1 x2 = some (A', u, r)) : k ≤ u.2.1 ∧ n ≤ u.2.2 := by
  unfold mX6_fits_b0 at h
  obtain ⟨q1, eq1, h⟩ := g_bd h
  by_cases c2 : q1.2 = 0
  · have h := g_tt c2 h
    exact oX6_fits_b21 h
  · have h := g_ff c2 h
    obtain ⟨q3, eq3, h⟩ := g_bd h
    by_cases c4 : q3.2 = 0
    · have h := g_tt c4 h
      exact oX6_fits_b21 h
    · have h := g_ff c4 h
      exact oX6_fits_b22 h

set_option maxHeartbeats 2000000 in
set_option maxRecDepth 20000 in
theorem wX6_fits_b0 (hN : 193 ≤ N)  {A0 A' : gM} {u : Nat × Nat × Nat} {r : Int32} (C : gC p (g_rmx 1513 u.2.1 u.2.2) s m args meth c cX6_fits RX6 14 D g (va_A (gw g ad0 ln0 A0 N) s.heap.size) 1513) (hr : meth.sig.returnType = some .boolean)  {cp k n : Nat} (hch : g_chg N ad0 ln0 ad ln cp) {A : gM} {x1 : Int32} {x2 : Int32} (h : mX6_fits_b0 N cp k n A x1 x2 = some (A', u, r)) : gJ p l e (g_rmx 1513 u.2.1 u.2.2) s m args below meth c (gEAi below D g N ad0 ln0 A0 A' u r args s) 14 D g (va_A (gw g ad0 ln0 A0 N) s.heap.size) N ad ln A [(0, gr 183), (1, gi x1), (2, gi x2)] k n 0 [] := by
  have hkn := oX6_fits_b0 h
  unfold mX6_fits_b0 at h
  refine g_aload_n C 0 dX6_fits_0 rfl ?_
  refine g_aload_n C 0 dX6_fits_1 rfl ?_
  refine g_iload_n C 1 dX6_fits_2 rfl ?_
  obtain ⟨q1, eq1, h⟩ := g_bd h
  refine g_calliV C 183 [gi x1] (kX6_isPart hN hch.2 eq1) qs_X6_75 (by omega) (by omega) rfl rfl rfl rfl (Nat.le_of_ble_eq_true rfl) hkn dX6_fits_3 ?_
  refine g_if_eq C dX6_fits_6 (tgt := 21) (by decide) (fun c2 => ?_) (fun c2 => ?_)
  · have h := g_tt c2 h
    refine g_sub [0, 1, 2] rfl ?_
    exact wX6_fits_b21 hN C hr hch h
  · have h := g_ff c2 h
    refine g_aload_n C 0 dX6_fits_9 rfl ?_
    refine g_iload_n C 2 dX6_fits_10 rfl ?_
    obtain ⟨q3, eq3, h⟩ := g_bd h
    refine g_calliV C 183 [gi x2] (kX6_isPart hN hch.2 eq3) qs_X6_75 (by omega) (by omega) rfl rfl rfl rfl (Nat.le_of_ble_eq_true rfl) hkn dX6_fits_11 ?_
    refine g_if_eq C dX6_fits_14 (tgt := 21) (by decide) (fun c4 => ?_) (fun c4 => ?_)
    · have h := g_tt c4 h
      refine g_sub [0, 1, 2] rfl ?_
      exact wX6_fits_b21 hN C hr hch h
    · have h := g_ff c4 h
      refine g_iconst (v := 0) C dX6_fits_17 (by decide) ?_
      refine g_goto C dX6_fits_18 (tgt := 22) (by decide) ?_
      refine g_sub [0, 1, 2] rfl ?_
      exact wX6_fits_b22 hN C hr hch h

set_option maxHeartbeats 2000000 in
set_option maxRecDepth 20000 in
theorem kX6_fits {l : Launch} {D : va_G} {g : gT} {N : Nat} (hN : 193 ≤ N) {ad ln : Nat → Nat} {cp : Nat} (hcp : g_cap ln cp) {A A' : gM} {x1 : Int32} {x2 : Int32} {u : Nat × Nat × Nat} {r : Int32} (h : mX6_fits N cp A x1 x2 = some (A', u, r)) : gAi l yX6_fits cX6_fits 14 (some .boolean) (1513) D g N ad ln A [gr 183, gi x1, gi x2] A' u r := by
  refine g_metAi (by decide) (Nat.le_of_ble_eq_true rfl) ?_
  intro p e s m args below meth c C hr
  refine g_sub [0, 1, 2] rfl ?_
  exact wX6_fits_b0 hN C hr (g_chg.rf hcp) h
def mX6_turned_b17 (N cp k n : Nat) (A : gM) (s0 : Int32) : Option (gM × (Nat × Nat × Nat) × Int32) :=
  some (A, (cp, k, n), (A 183 12))
def mX6_turned_b9 (N cp k n : Nat) (A : gM) : Option (gM × (Nat × Nat × Nat) × Int32) :=
  (mX6_typeOf N cp A (A 183 1)).bind fun q1 =>
  mX6_turned_b17 N q1.2.1.1 (k + q1.2.1.2.1) (n + q1.2.1.2.2) q1.1 q1.2.2
def mX6_turned_b0 (N cp k n : Nat) (A : gM) (x1 : Int32) (x2 : Int32) : Option (gM × (Nat × Nat × Nat) × Int32) :=
  (mX6_put N cp A 4 x1 x2 (-1) (-1)).bind fun q1 =>
  mX6_turned_b9 N q1.2.1 (k + q1.2.2.1) (n + q1.2.2.2) q1.1
def mX6_turned (N cp : Nat) (A : gM) (x1 : Int32) (x2 : Int32) : Option (gM × (Nat × Nat × Nat) × Int32) := mX6_turned_b0 N cp 0 0 A x1 x2
set_option maxHeartbeats 2000000 in
set_option maxRecDepth 20000 in
theorem oX6_turned_b17 {N : Nat} {A' : gM} {u : Nat × Nat × Nat} {r : Int32}  {cp k n : Nat} {A : gM} {s0 : Int32} (h : mX6_turned_b17 N cp k n A s0 = some (A', u, r)) : k ≤ u.2.1 ∧ n ≤ u.2.2 := by
  unfold mX6_turned_b17 at h
  obtain ⟨rfl, h2⟩ := Prod.mk.inj (Option.some.inj h)
  obtain ⟨rfl, rfl⟩ := Prod.mk.inj h2
  exact ⟨Nat.le_refl _, Nat.le_refl _⟩

set_option maxHeartbeats 2000000 in
set_option maxRecDepth 20000 in
theorem wX6_turned_b17 (hN : 193 ≤ N)  {A0 A' : gM} {u : Nat × Nat × Nat} {r : Int32} (C : gC p (g_rmx 1512 u.2.1 u.2.2) s m args meth c cX6_turned RX6 3 D g (va_A (gw g ad0 ln0 A0 N) s.heap.size) 1512) (hr : meth.sig.returnType = some .int)  {cp k n : Nat} (hch : g_chg N ad0 ln0 ad ln cp) {A : gM} {s0 : Int32} (h : mX6_turned_b17 N cp k n A s0 = some (A', u, r)) : gJ p l e (g_rmx 1512 u.2.1 u.2.2) s m args below meth c (gEAi below D g N ad0 ln0 A0 A' u r args s) 3 D g (va_A (gw g ad0 ln0 A0 N) s.heap.size) N ad ln A [(0, gr 183)] k n 17 [gi s0] := by
  have hkn := oX6_turned_b17 h
  unfold mX6_turned_b17 at h
  refine g_pop_i C dX6_turned_17 ?_
  refine g_aload_n C 0 dX6_turned_18 rfl ?_
  refine g_get (v := gi (A 183 12)) C 183 12 (by omega) rfl rfl gu_6 (by decide) qf_X6_99 rfl dX6_turned_19 ?_
  obtain ⟨rfl, h2⟩ := Prod.mk.inj (Option.some.inj h)
  obtain ⟨rfl, rfl⟩ := Prod.mk.inj h2
  exact g_retAi C hch hr dX6_turned_22

set_option maxHeartbeats 2000000 in
set_option maxRecDepth 20000 in
theorem oX6_turned_b9 {N : Nat} {A' : gM} {u : Nat × Nat × Nat} {r : Int32}  {cp k n : Nat} {A : gM} (h : mX6_turned_b9 N cp k n A = some (A', u, r)) : k ≤ u.2.1 ∧ n ≤ u.2.2 := by
  unfold mX6_turned_b9 at h
  obtain ⟨q1, eq1, h⟩ := g_bd h
  have mo := oX6_turned_b17 h
  exact ⟨by omega, by omega⟩

set_option maxHeartbeats 2000000 in
set_option maxRecDepth 20000 in
theorem wX6_turned_b9 (hN : 193 ≤ N)  {A0 A' : gM} {u : Nat × Nat × Nat} {r : Int32} (C : gC p (g_rmx 1512 u.2.1 u.2.2) s m args meth c cX6_turned RX6 3 D g (va_A (gw g ad0 ln0 A0 N) s.heap.size) 1512) (hr : meth.sig.returnType = some .int)  {cp k n : Nat} (hch : g_chg N ad0 ln0 ad ln cp) {A : gM} (h : mX6_turned_b9 N cp k n A = some (A', u, r)) : gJ p l e (g_rmx 1512 u.2.1 u.2.2) s m args below meth c (gEAi below D g N ad0 ln0 A0 A' u r args s) 3 D g (va_A (gw g ad0 ln0 A0 N) s.heap.size) N ad ln A [(0, gr 183)] k n 9 [] := by
  have hkn := oX6_turned_b9 h
  unfold mX6_turned_b9 at h
  refine g_aload_n C 0 dX6_turned_9 rfl ?_
  refine g_aload_n C 0 dX6_turned_10 rfl ?_
  refine g_get (v := gi (A 183 1)) C 183 1 (by omega) rfl rfl gu_6 (by decide) qf_X6_39 rfl dX6_turned_11 ?_
  obtain ⟨q1, eq1, h⟩ := g_bd h
  have mo := oX6_turned_b17 h
  refine g_callAiV C 183 [gi (A 183 1)] (kX6_typeOf hN hch.2 eq1) qs_X6_173 (by omega) (by omega) rfl rfl rfl rfl (Nat.le_of_ble_eq_true rfl) ⟨mo.1, mo.2⟩ (And.intro ⟨by omega, by omega⟩ True.intro) True.intro dX6_turned_14 (fun ad1 ln1 hch1 => ?_)
  have hch := g_chg.trans (by omega) hch hch1
  refine g_sub [0] rfl ?_
  exact wX6_turned_b17 hN C hr hch h

set_option maxHeartbeats 2000000 in
set_option maxRecDepth 20000 in
theorem oX6_turned_b0 {N : Nat} {A' : gM} {u : Nat × Nat × Nat} {r : Int32}  {cp k n : Nat} {A : gM} {x1 : Int32} {x2 : Int32} (h : mX6_turned_b0 N cp k n A x1 x2 = some (A', u, r)) : k ≤ u.2.1 ∧ n ≤ u.2.2 := by
  unfold mX6_turned_b0 at h
  obtain ⟨q1, eq1, h⟩ := g_bd h
  have mo := oX6_turned_b9 h
  exact ⟨by omega, by omega⟩

set_option maxHeartbeats 2000000 in
set_option maxRecDepth 20000 in
theorem wX6_turned_b0 (hN : 193 ≤ N)  {A0 A' : gM} {u : Nat × Nat × Nat} {r : Int32} (C : gC p (g_rmx 1512 u.2.1 u.2.2) s m args meth c cX6_turned RX6 3 D g (va_A (gw g ad0 ln0 A0 N) s.heap.size) 1512) (hr : meth.sig.returnType = some .int)  {cp k n : Nat} (hch : g_chg N ad0 ln0 ad ln cp) {A : gM} {x1 : Int32} {x2 : Int32} (h : mX6_turned_b0 N cp k n A x1 x2 = some (A', u, r)) : gJ p l e (g_rmx 1512 u.2.1 u.2.2) s m args below meth c (gEAi below D g N ad0 ln0 A0 A' u r args s) 3 D g (va_A (gw g ad0 ln0 A0 N) s.heap.size) N ad ln A [(0, gr 183), (1, gi x1), (2, gi x2)] k n 0 [] := by
  have hkn := oX6_turned_b0 h
  unfold mX6_turned_b0 at h
  refine g_aload_n C 0 dX6_turned_0 rfl ?_
  refine g_iconst (v := 4) C dX6_turned_1 (by decide) ?_
  refine g_iload_n C 1 dX6_turned_2 rfl ?_
  refine g_iload_n C 2 dX6_turned_3 rfl ?_
  refine g_iconst (v := (-1)) C dX6_turned_4 (by decide) ?_
  refine g_iconst (v := (-1)) C dX6_turned_5 (by decide) ?_
  obtain ⟨q1, eq1, h⟩ := g_bd h
  have mo := oX6_turned_b9 h
  refine g_callAvV C 183 [gi 4, gi x1, gi x2, gi (-1), gi (-1)] (kX6_put hN hch.2 eq1) qs_X6_63 (by omega) (by omega) rfl rfl rfl rfl (Nat.le_of_ble_eq_true rfl) ⟨mo.1, mo.2⟩ (And.intro ⟨by omega, by omega⟩ True.intro) True.intro dX6_turned_6 (fun ad1 ln1 hch1 => ?_)
  have hch := g_chg.trans (by omega) hch hch1
  refine g_sub [0] rfl ?_
  exact wX6_turned_b9 hN C hr hch h

set_option maxHeartbeats 2000000 in
set_option maxRecDepth 20000 in
theorem kX6_turned {l : Launch} {D : va_G} {g : gT} {N : Nat} (hN : 193 ≤ N) {ad ln : Nat → Nat} {cp : Nat} (hcp : g_cap ln cp) {A A' : gM} {x1 : Int32} {x2 : Int32} {u : Nat × Nat × Nat} {r : Int32} (h : mX6_turned N cp A x1 x2 = some (A', u, r)) : gAi l yX6_turned cX6_turned 3 (some .int) (1512) D g N ad ln A [gr 183, gi x1, gi x2] A' u r := by
  refine g_metAi (by decide) (Nat.le_of_ble_eq_true rfl) ?_
  intro p e s m args below meth c C hr
  refine g_sub [0, 1, 2] rfl ?_
  exact wX6_turned_b0 hN C hr (g_chg.rf hcp) h
def mX6_goes_b35 (N cp k n : Nat) (A : gM) (s0 : Int32) : Option (gM × (Nat × Nat × Nat) × Int32) :=
  some (A, (cp, k, n), s0)
def mX6_goes_b30 (N cp k n : Nat) (A : gM) : Option (gM × (Nat × Nat × Nat) × Int32) :=
  (mX6_fail cp A 1).bind fun q1 =>
  mX6_goes_b35 N cp k n q1.1 q1.2
def mX6_goes_b27 (N cp k n : Nat) (A : gM) (s0 : Int32) : Option (gM × (Nat × Nat × Nat) × Int32) :=
  mX6_goes_b35 N cp k n A s0
def mX6_goes_b0 (N cp k n : Nat) (A : gM) (x1 : Int32) (x2 : Int32) : Option (gM × (Nat × Nat × Nat) × Int32) :=
  g_let (g_up A 183 0 0) fun A1 =>
  (mX6_isPart cp A1 x1).bind fun q2 =>
  if q2.2 = 0 then
  mX6_goes_b30 N cp k n q2.1
  else
  (mX6_isPart cp q2.1 x2).bind fun q4 =>
  if q4.2 = 0 then
  mX6_goes_b30 N cp k n q4.1
  else
  (mX6_turned N cp q4.1 x1 x2).bind fun q6 =>
  mX6_goes_b27 N q6.2.1.1 (k + q6.2.1.2.1) (n + q6.2.1.2.2) q6.1 q6.2.2
def mX6_goes (N cp : Nat) (A : gM) (x1 : Int32) (x2 : Int32) : Option (gM × (Nat × Nat × Nat) × Int32) := mX6_goes_b0 N cp 0 0 A x1 x2
set_option maxHeartbeats 2000000 in
set_option maxRecDepth 20000 in
theorem oX6_goes_b35 {N : Nat} {A' : gM} {u : Nat × Nat × Nat} {r : Int32}  {cp k n : Nat} {A : gM} {s0 : Int32} (h : mX6_goes_b35 N cp k n A s0 = some (A', u, r)) : k ≤ u.2.1 ∧ n ≤ u.2.2 := by
  unfold mX6_goes_b35 at h
  obtain ⟨rfl, h2⟩ := Prod.mk.inj (Option.some.inj h)
  obtain ⟨rfl, rfl⟩ := Prod.mk.inj h2
  exact ⟨Nat.le_refl _, Nat.le_refl _⟩

set_option maxHeartbeats 2000000 in
set_option maxRecDepth 20000 in
theorem wX6_goes_b35 (hN : 193 ≤ N)  {A0 A' : gM} {u : Nat × Nat × Nat} {r : Int32} (C : gC p (g_rmx 1513 u.2.1 u.2.2) s m args meth c cX6_goes RX6 3 D g (va_A (gw g ad0 ln0 A0 N) s.heap.size) 1513) (hr : meth.sig.returnType = some .int)  {cp k n : Nat} (hch : g_chg N ad0 ln0 ad ln cp) {A : gM} {s0 : Int32} (h : mX6_goes_b35 N cp k n A s0 = some (A', u, r)) : gJ p l e (g_rmx 1513 u.2.1 u.2.2) s m args below meth c (gEAi below D g N ad0 ln0 A0 A' u r args s) 3 D g (va_A (gw g ad0 ln0 A0 N) s.heap.size) N ad ln A [] k n 35 [gi s0] := by
  have hkn := oX6_goes_b35 h
  unfold mX6_goes_b35 at h
  obtain ⟨rfl, h2⟩ := Prod.mk.inj (Option.some.inj h)
  obtain ⟨rfl, rfl⟩ := Prod.mk.inj h2
  exact g_retAi C hch hr dX6_goes_35

set_option maxHeartbeats 2000000 in
set_option maxRecDepth 20000 in
theorem oX6_goes_b30 {N : Nat} {A' : gM} {u : Nat × Nat × Nat} {r : Int32}  {cp k n : Nat} {A : gM} (h : mX6_goes_b30 N cp k n A = some (A', u, r)) : k ≤ u.2.1 ∧ n ≤ u.2.2 := by
  unfold mX6_goes_b30 at h
  obtain ⟨q1, eq1, h⟩ := g_bd h
  exact oX6_goes_b35 h

set_option maxHeartbeats 2000000 in
set_option maxRecDepth 20000 in
theorem wX6_goes_b30 (hN : 193 ≤ N)  {A0 A' : gM} {u : Nat × Nat × Nat} {r : Int32} (C : gC p (g_rmx 1513 u.2.1 u.2.2) s m args meth c cX6_goes RX6 3 D g (va_A (gw g ad0 ln0 A0 N) s.heap.size) 1513) (hr : meth.sig.returnType = some .int)  {cp k n : Nat} (hch : g_chg N ad0 ln0 ad ln cp) {A : gM} (h : mX6_goes_b30 N cp k n A = some (A', u, r)) : gJ p l e (g_rmx 1513 u.2.1 u.2.2) s m args below meth c (gEAi below D g N ad0 ln0 A0 A' u r args s) 3 D g (va_A (gw g ad0 ln0 A0 N) s.heap.size) N ad ln A [(0, gr 183)] k n 30 [] := by
  have hkn := oX6_goes_b30 h
  unfold mX6_goes_b30 at h
  refine g_aload_n C 0 dX6_goes_30 rfl ?_
  refine g_iconst (v := 1) C dX6_goes_31 (by decide) ?_
  obtain ⟨q1, eq1, h⟩ := g_bd h
  refine g_calliV C 183 [gi 1] (kX6_fail hN hch.2 eq1) qs_X6_60 (by omega) (by omega) rfl rfl rfl rfl (Nat.le_of_ble_eq_true rfl) hkn dX6_goes_32 ?_
  refine g_sub [] rfl ?_
  exact wX6_goes_b35 hN C hr hch h

set_option maxHeartbeats 2000000 in
set_option maxRecDepth 20000 in
theorem oX6_goes_b27 {N : Nat} {A' : gM} {u : Nat × Nat × Nat} {r : Int32}  {cp k n : Nat} {A : gM} {s0 : Int32} (h : mX6_goes_b27 N cp k n A s0 = some (A', u, r)) : k ≤ u.2.1 ∧ n ≤ u.2.2 := by
  unfold mX6_goes_b27 at h
  exact oX6_goes_b35 h

set_option maxHeartbeats 2000000 in
set_option maxRecDepth 20000 in
theorem wX6_goes_b27 (hN : 193 ≤ N)  {A0 A' : gM} {u : Nat × Nat × Nat} {r : Int32} (C : gC p (g_rmx 1513 u.2.1 u.2.2) s m args meth c cX6_goes RX6 3 D g (va_A (gw g ad0 ln0 A0 N) s.heap.size) 1513) (hr : meth.sig.returnType = some .int)  {cp k n : Nat} (hch : g_chg N ad0 ln0 ad ln cp) {A : gM} {s0 : Int32} (h : mX6_goes_b27 N cp k n A s0 = some (A', u, r)) : gJ p l e (g_rmx 1513 u.2.1 u.2.2) s m args below meth c (gEAi below D g N ad0 ln0 A0 A' u r args s) 3 D g (va_A (gw g ad0 ln0 A0 N) s.heap.size) N ad ln A [] k n 27 [gi s0] := by
  have hkn := oX6_goes_b27 h
  unfold mX6_goes_b27 at h
  refine g_goto C dX6_goes_27 (tgt := 35) (by decide) ?_
  refine g_sub [] rfl ?_
  exact wX6_goes_b35 hN C hr hch h

set_option maxHeartbeats 2000000 in
set_option maxRecDepth 20000 in
theorem oX6_goes_b0 {N : Nat} {A' : gM} {u : Nat × Nat × Nat} {r : Int32}  {cp k n : Nat} {A : gM} {x1 : Int32} {x2 : Int32} (h : mX6_goes_b0 N cp k n A x1 x2 = some (A', u, r)) : k ≤ u.2.1 ∧ n ≤ u.2.2 := by
  unfold mX6_goes_b0 at h
  obtain ⟨A1, eA1, h⟩ := g_lt h
  obtain ⟨q2, eq2, h⟩ := g_bd h
  by_cases c3 : q2.2 = 0
  · have h := g_tt c3 h
    exact oX6_goes_b30 h
  · have h := g_ff c3 h
    obtain ⟨q4, eq4, h⟩ := g_bd h
    by_cases c5 : q4.2 = 0
    · have h := g_tt c5 h
      exact oX6_goes_b30 h
    · have h := g_ff c5 h
      obtain ⟨q6, eq6, h⟩ := g_bd h
      have mo := oX6_goes_b27 h
      exact ⟨by omega, by omega⟩

set_option maxHeartbeats 2000000 in
set_option maxRecDepth 20000 in
theorem wX6_goes_b0 (hN : 193 ≤ N)  {A0 A' : gM} {u : Nat × Nat × Nat} {r : Int32} (C : gC p (g_rmx 1513 u.2.1 u.2.2) s m args meth c cX6_goes RX6 3 D g (va_A (gw g ad0 ln0 A0 N) s.heap.size) 1513) (hr : meth.sig.returnType = some .int)  {cp k n : Nat} (hch : g_chg N ad0 ln0 ad ln cp) {A : gM} {x1 : Int32} {x2 : Int32} (h : mX6_goes_b0 N cp k n A x1 x2 = some (A', u, r)) : gJ p l e (g_rmx 1513 u.2.1 u.2.2) s m args below meth c (gEAi below D g N ad0 ln0 A0 A' u r args s) 3 D g (va_A (gw g ad0 ln0 A0 N) s.heap.size) N ad ln A [(0, gr 183), (1, gi x1), (2, gi x2)] k n 0 [] := by
  have hkn := oX6_goes_b0 h
  unfold mX6_goes_b0 at h
  refine g_aload_n C 0 dX6_goes_0 rfl ?_
  refine g_iconst (v := 0) C dX6_goes_1 (by decide) ?_
  obtain ⟨A1, eA1, h⟩ := g_lt h
  refine g_put C 183 0 tyX6 tyX6_ok nmX6 (by omega) rfl rfl gu_6 (by decide) qf_X6_35 rfl (by decide +kernel) (Nat.le_of_ble_eq_true rfl) rfl eA1 dX6_goes_2 ?_
  refine g_aload_n C 0 dX6_goes_5 rfl ?_
  refine g_iload_n C 1 dX6_goes_6 rfl ?_
  obtain ⟨q2, eq2, h⟩ := g_bd h
  refine g_calliV C 183 [gi x1] (kX6_isPart hN hch.2 eq2) qs_X6_75 (by omega) (by omega) rfl rfl rfl rfl (Nat.le_of_ble_eq_true rfl) hkn dX6_goes_7 ?_
  refine g_if_eq C dX6_goes_10 (tgt := 30) (by decide) (fun c3 => ?_) (fun c3 => ?_)
  · have h := g_tt c3 h
    refine g_sub [0] rfl ?_
    exact wX6_goes_b30 hN C hr hch h
  · have h := g_ff c3 h
    refine g_aload_n C 0 dX6_goes_13 rfl ?_
    refine g_iload_n C 2 dX6_goes_14 rfl ?_
    obtain ⟨q4, eq4, h⟩ := g_bd h
    refine g_calliV C 183 [gi x2] (kX6_isPart hN hch.2 eq4) qs_X6_75 (by omega) (by omega) rfl rfl rfl rfl (Nat.le_of_ble_eq_true rfl) hkn dX6_goes_15 ?_
    refine g_if_eq C dX6_goes_18 (tgt := 30) (by decide) (fun c5 => ?_) (fun c5 => ?_)
    · have h := g_tt c5 h
      refine g_sub [0] rfl ?_
      exact wX6_goes_b30 hN C hr hch h
    · have h := g_ff c5 h
      refine g_aload_n C 0 dX6_goes_21 rfl ?_
      refine g_iload_n C 1 dX6_goes_22 rfl ?_
      refine g_iload_n C 2 dX6_goes_23 rfl ?_
      obtain ⟨q6, eq6, h⟩ := g_bd h
      have mo := oX6_goes_b27 h
      refine g_callAiV C 183 [gi x1, gi x2] (kX6_turned hN hch.2 eq6) qs_X6_202 (by omega) (by omega) rfl rfl rfl rfl (Nat.le_of_ble_eq_true rfl) ⟨mo.1, mo.2⟩ (And.intro ⟨by omega, by omega⟩ True.intro) True.intro dX6_goes_24 (fun ad1 ln1 hch1 => ?_)
      have hch := g_chg.trans (by omega) hch hch1
      refine g_sub [] rfl ?_
      exact wX6_goes_b27 hN C hr hch h

set_option maxHeartbeats 2000000 in
set_option maxRecDepth 20000 in
theorem kX6_goes {l : Launch} {D : va_G} {g : gT} {N : Nat} (hN : 193 ≤ N) {ad ln : Nat → Nat} {cp : Nat} (hcp : g_cap ln cp) {A A' : gM} {x1 : Int32} {x2 : Int32} {u : Nat × Nat × Nat} {r : Int32} (h : mX6_goes N cp A x1 x2 = some (A', u, r)) : gAi l yX6_goes cX6_goes 3 (some .int) (1513) D g N ad ln A [gr 183, gi x1, gi x2] A' u r := by
  refine g_metAi (by decide) (Nat.le_of_ble_eq_true rfl) ?_
  intro p e s m args below meth c C hr
  refine g_sub [0, 1, 2] rfl ?_
  exact wX6_goes_b0 hN C hr (g_chg.rf hcp) h
def mX6_first_b35 (N cp k n : Nat) (K21 : Nat → Nat → Nat → gM → Int32 → Int32 → Option (gM × (Nat × Nat × Nat) × Int32)) (A : gM) (x1 : Int32) (x2 : Int32) (s0 : Int32) : Option (gM × (Nat × Nat × Nat) × Int32) :=
  if s0 = 0 then
  some (A, (cp, k, n), x2)
  else
  g_let (x2 + 1) fun v2 =>
  K21 cp k n A x1 v2
def mX6_first_b21 (N cp k n : Nat) (K21 : Nat → Nat → Nat → gM → Int32 → Int32 → Option (gM × (Nat × Nat × Nat) × Int32)) (A : gM) (x1 : Int32) (x2 : Int32) : Option (gM × (Nat × Nat × Nat) × Int32) :=
  if (A 183 1) ≤ x2 then
  some (A, (cp, k, n), (-1))
  else
  (mX6_turned N cp A x1 x2).bind fun q2 =>
  mX6_first_b35 N q2.2.1.1 (k + q2.2.1.2.1) (n + q2.2.1.2.2) K21 q2.1 x1 x2 q2.2.2
def mX6_first_L21 (N : Nat) : Nat → Nat → Nat → Nat → gM → Int32 → Int32 → Option (gM × (Nat × Nat × Nat) × Int32)
  | 0 => fun _ _ _ _ _ _ => none
  | f + 1 => fun cp k n => mX6_first_b21 N cp k n (mX6_first_L21 N f)
def mX6_first_b0 (N cp k n : Nat) (A : gM) (x1 : Int32) : Option (gM × (Nat × Nat × Nat) × Int32) :=
  g_let (g_up A 183 0 0) fun A1 =>
  (mX6_isPart cp A1 x1).bind fun q2 =>
  if q2.2 = 0 then
  (mX6_fail cp q2.1 1).bind fun q4 =>
  some (q4.1, (cp, k, n), q4.2)
  else
  mX6_first_L21 N gF cp k n q2.1 x1 0
def mX6_first (N cp : Nat) (A : gM) (x1 : Int32) : Option (gM × (Nat × Nat × Nat) × Int32) := mX6_first_b0 N cp 0 0 A x1
set_option maxHeartbeats 2000000 in
set_option maxRecDepth 20000 in
theorem oX6_first_b35 {N : Nat} {A' : gM} {u : Nat × Nat × Nat} {r : Int32} {K21 : Nat → Nat → Nat → gM → Int32 → Int32 → Option (gM × (Nat × Nat × Nat) × Int32)} (oK21 : ∀ {cp k n : Nat} {A : gM} {x1 : Int32} {x2 : Int32}, K21 cp k n A x1 x2 = some (A', u, r) → k ≤ u.2.1 ∧ n ≤ u.2.2) {cp k n : Nat} {A : gM} {x1 : Int32} {x2 : Int32} {s0 : Int32} (h : mX6_first_b35 N cp k n K21 A x1 x2 s0 = some (A', u, r)) : k ≤ u.2.1 ∧ n ≤ u.2.2 := by
  unfold mX6_first_b35 at h
  by_cases c1 : s0 = 0
  · have h := g_tt c1 h
    obtain ⟨rfl, h2⟩ := Prod.mk.inj (Option.some.inj h)
    obtain ⟨rfl, rfl⟩ := Prod.mk.inj h2
    exact ⟨Nat.le_refl _, Nat.le_refl _⟩
  · have h := g_ff c1 h
    obtain ⟨v2, ev2, h⟩ := g_lt h
    exact oK21 h

set_option maxHeartbeats 2000000 in
set_option maxRecDepth 20000 in
theorem wX6_first_b35 (hN : 193 ≤ N)  {A0 A' : gM} {u : Nat × Nat × Nat} {r : Int32} (C : gC p (g_rmx 1513 u.2.1 u.2.2) s m args meth c cX6_first RX6 3 D g (va_A (gw g ad0 ln0 A0 N) s.heap.size) 1513) (hr : meth.sig.returnType = some .int) {K21 : Nat → Nat → Nat → gM → Int32 → Int32 → Option (gM × (Nat × Nat × Nat) × Int32)} (hK21 : ∀ {ad ln : Nat → Nat} {cp k n : Nat} (_ : g_chg N ad0 ln0 ad ln cp) {A : gM} {x1 : Int32} {x2 : Int32}, K21 cp k n A x1 x2 = some (A', u, r) → gJ p l e (g_rmx 1513 u.2.1 u.2.2) s m args below meth c (gEAi below D g N ad0 ln0 A0 A' u r args s) 3 D g (va_A (gw g ad0 ln0 A0 N) s.heap.size) N ad ln A [(0, gr 183), (1, gi x1), (2, gi x2)] k n 21 []) (oK21 : ∀ {cp k n : Nat} {A : gM} {x1 : Int32} {x2 : Int32}, K21 cp k n A x1 x2 = some (A', u, r) → k ≤ u.2.1 ∧ n ≤ u.2.2) {cp k n : Nat} (hch : g_chg N ad0 ln0 ad ln cp) {A : gM} {x1 : Int32} {x2 : Int32} {s0 : Int32} (h : mX6_first_b35 N cp k n K21 A x1 x2 s0 = some (A', u, r)) : gJ p l e (g_rmx 1513 u.2.1 u.2.2) s m args below meth c (gEAi below D g N ad0 ln0 A0 A' u r args s) 3 D g (va_A (gw g ad0 ln0 A0 N) s.heap.size) N ad ln A [(0, gr 183), (1, gi x1), (2, gi x2)] k n 35 [gi s0] := by
  have hkn := oX6_first_b35 oK21 h
  unfold mX6_first_b35 at h
  refine g_if_ne C dX6_first_35 (tgt := 40) (by decide) (fun c1 => ?_) (fun c1 => ?_)
  · have h := g_ff c1 h
    obtain ⟨v2, ev2, h⟩ := g_lt h
    refine g_iinc C 2 dX6_first_40 rfl ev2 (by decide) rfl ?_
    refine g_goto C dX6_first_43 (tgt := 21) (by decide) ?_
    refine g_sub [1, 2, 0] rfl ?_
    exact hK21 hch h
  · have h := g_tt c1 h
    refine g_iload_n C 2 dX6_first_38 rfl ?_
    obtain ⟨rfl, h2⟩ := Prod.mk.inj (Option.some.inj h)
    obtain ⟨rfl, rfl⟩ := Prod.mk.inj h2
    exact g_retAi C hch hr dX6_first_39

set_option maxHeartbeats 2000000 in
set_option maxRecDepth 20000 in
theorem oX6_first_b21 {N : Nat} {A' : gM} {u : Nat × Nat × Nat} {r : Int32} {K21 : Nat → Nat → Nat → gM → Int32 → Int32 → Option (gM × (Nat × Nat × Nat) × Int32)} (oK21 : ∀ {cp k n : Nat} {A : gM} {x1 : Int32} {x2 : Int32}, K21 cp k n A x1 x2 = some (A', u, r) → k ≤ u.2.1 ∧ n ≤ u.2.2) {cp k n : Nat} {A : gM} {x1 : Int32} {x2 : Int32} (h : mX6_first_b21 N cp k n K21 A x1 x2 = some (A', u, r)) : k ≤ u.2.1 ∧ n ≤ u.2.2 := by
  unfold mX6_first_b21 at h
  by_cases c1 : (A 183 1) ≤ x2
  · have h := g_tt c1 h
    obtain ⟨rfl, h2⟩ := Prod.mk.inj (Option.some.inj h)
    obtain ⟨rfl, rfl⟩ := Prod.mk.inj h2
    exact ⟨Nat.le_refl _, Nat.le_refl _⟩
  · have h := g_ff c1 h
    obtain ⟨q2, eq2, h⟩ := g_bd h
    have mo := oX6_first_b35 oK21 h
    exact ⟨by omega, by omega⟩

set_option maxHeartbeats 2000000 in
set_option maxRecDepth 20000 in
theorem wX6_first_b21 (hN : 193 ≤ N)  {A0 A' : gM} {u : Nat × Nat × Nat} {r : Int32} (C : gC p (g_rmx 1513 u.2.1 u.2.2) s m args meth c cX6_first RX6 3 D g (va_A (gw g ad0 ln0 A0 N) s.heap.size) 1513) (hr : meth.sig.returnType = some .int) {K21 : Nat → Nat → Nat → gM → Int32 → Int32 → Option (gM × (Nat × Nat × Nat) × Int32)} (hK21 : ∀ {ad ln : Nat → Nat} {cp k n : Nat} (_ : g_chg N ad0 ln0 ad ln cp) {A : gM} {x1 : Int32} {x2 : Int32}, K21 cp k n A x1 x2 = some (A', u, r) → gJ p l e (g_rmx 1513 u.2.1 u.2.2) s m args below meth c (gEAi below D g N ad0 ln0 A0 A' u r args s) 3 D g (va_A (gw g ad0 ln0 A0 N) s.heap.size) N ad ln A [(0, gr 183), (1, gi x1), (2, gi x2)] k n 21 []) (oK21 : ∀ {cp k n : Nat} {A : gM} {x1 : Int32} {x2 : Int32}, K21 cp k n A x1 x2 = some (A', u, r) → k ≤ u.2.1 ∧ n ≤ u.2.2) {cp k n : Nat} (hch : g_chg N ad0 ln0 ad ln cp) {A : gM} {x1 : Int32} {x2 : Int32} (h : mX6_first_b21 N cp k n K21 A x1 x2 = some (A', u, r)) : gJ p l e (g_rmx 1513 u.2.1 u.2.2) s m args below meth c (gEAi below D g N ad0 ln0 A0 A' u r args s) 3 D g (va_A (gw g ad0 ln0 A0 N) s.heap.size) N ad ln A [(0, gr 183), (1, gi x1), (2, gi x2)] k n 21 [] := by
  have hkn := oX6_first_b21 oK21 h
  unfold mX6_first_b21 at h
  refine g_iload_n C 2 dX6_first_21 rfl ?_
  refine g_aload_n C 0 dX6_first_22 rfl ?_
  refine g_get (v := gi (A 183 1)) C 183 1 (by omega) rfl rfl gu_6 (by decide) qf_X6_39 rfl dX6_first_23 ?_
  refine g_icmp_ge C dX6_first_26 (tgt := 46) (by decide) (fun c1 => ?_) (fun c1 => ?_)
  · have h := g_tt c1 h
    refine g_iconst (v := (-1)) C dX6_first_46 (by decide) ?_
    obtain ⟨rfl, h2⟩ := Prod.mk.inj (Option.some.inj h)
    obtain ⟨rfl, rfl⟩ := Prod.mk.inj h2
    exact g_retAi C hch hr dX6_first_47
  · have h := g_ff c1 h
    refine g_aload_n C 0 dX6_first_29 rfl ?_
    refine g_iload_n C 1 dX6_first_30 rfl ?_
    refine g_iload_n C 2 dX6_first_31 rfl ?_
    obtain ⟨q2, eq2, h⟩ := g_bd h
    have mo := oX6_first_b35 oK21 h
    refine g_callAiV C 183 [gi x1, gi x2] (kX6_turned hN hch.2 eq2) qs_X6_202 (by omega) (by omega) rfl rfl rfl rfl (Nat.le_of_ble_eq_true rfl) ⟨mo.1, mo.2⟩ (And.intro ⟨by omega, by omega⟩ True.intro) True.intro dX6_first_32 (fun ad1 ln1 hch1 => ?_)
    have hch := g_chg.trans (by omega) hch hch1
    refine g_sub [0, 1, 2] rfl ?_
    exact wX6_first_b35 hN C hr hK21 oK21 hch h

set_option maxHeartbeats 2000000 in
set_option maxRecDepth 20000 in
theorem oX6_first_L21 {N : Nat} {A' : gM} {u : Nat × Nat × Nat} {r : Int32}  : ∀ (f : Nat) {cp k n : Nat} {A : gM} {x1 : Int32} {x2 : Int32}, mX6_first_L21 N f cp k n A x1 x2 = some (A', u, r) → k ≤ u.2.1 ∧ n ≤ u.2.2
  | 0, _, _, _, A, x1, x2, h => by cases h
  | f + 1, cp, k, n, A, x1, x2, h => oX6_first_b21 (K21 := mX6_first_L21 N f) (fun h => oX6_first_L21 f h) h
set_option maxHeartbeats 2000000 in
set_option maxRecDepth 20000 in
theorem wX6_first_L21 (hN : 193 ≤ N)  {A0 A' : gM} {u : Nat × Nat × Nat} {r : Int32} (C : gC p (g_rmx 1513 u.2.1 u.2.2) s m args meth c cX6_first RX6 3 D g (va_A (gw g ad0 ln0 A0 N) s.heap.size) 1513) (hr : meth.sig.returnType = some .int)  : ∀ (f : Nat) {ad ln : Nat → Nat} {cp k n : Nat} (_ : g_chg N ad0 ln0 ad ln cp) {A : gM} {x1 : Int32} {x2 : Int32}, mX6_first_L21 N f cp k n A x1 x2 = some (A', u, r) → gJ p l e (g_rmx 1513 u.2.1 u.2.2) s m args below meth c (gEAi below D g N ad0 ln0 A0 A' u r args s) 3 D g (va_A (gw g ad0 ln0 A0 N) s.heap.size) N ad ln A [(0, gr 183), (1, gi x1), (2, gi x2)] k n 21 []
  | 0, ad, ln, cp, k, n, hch, A, x1, x2, h => by cases h
  | f + 1, ad, ln, cp, k, n, hch, A, x1, x2, h => wX6_first_b21 (K21 := mX6_first_L21 N f) hN C hr (fun {ad ln} {cp k n} hch {A} {x1} {x2} h => wX6_first_L21 hN C hr f hch h) (fun h => oX6_first_L21 f h) hch h
set_option maxHeartbeats 2000000 in
set_option maxRecDepth 20000 in
theorem oX6_first_b0 {N : Nat} {A' : gM} {u : Nat × Nat × Nat} {r : Int32}  {cp k n : Nat} {A : gM} {x1 : Int32} (h : mX6_first_b0 N cp k n A x1 = some (A', u, r)) : k ≤ u.2.1 ∧ n ≤ u.2.2 := by
  unfold mX6_first_b0 at h
  obtain ⟨A1, eA1, h⟩ := g_lt h
  obtain ⟨q2, eq2, h⟩ := g_bd h
  by_cases c3 : q2.2 = 0
  · have h := g_tt c3 h
    obtain ⟨q4, eq4, h⟩ := g_bd h
    obtain ⟨rfl, h2⟩ := Prod.mk.inj (Option.some.inj h)
    obtain ⟨rfl, rfl⟩ := Prod.mk.inj h2
    exact ⟨Nat.le_refl _, Nat.le_refl _⟩
  · have h := g_ff c3 h
    exact oX6_first_L21 gF h

set_option maxHeartbeats 2000000 in
set_option maxRecDepth 20000 in
theorem wX6_first_b0 (hN : 193 ≤ N)  {A0 A' : gM} {u : Nat × Nat × Nat} {r : Int32} (C : gC p (g_rmx 1513 u.2.1 u.2.2) s m args meth c cX6_first RX6 3 D g (va_A (gw g ad0 ln0 A0 N) s.heap.size) 1513) (hr : meth.sig.returnType = some .int)  {cp k n : Nat} (hch : g_chg N ad0 ln0 ad ln cp) {A : gM} {x1 : Int32} (h : mX6_first_b0 N cp k n A x1 = some (A', u, r)) : gJ p l e (g_rmx 1513 u.2.1 u.2.2) s m args below meth c (gEAi below D g N ad0 ln0 A0 A' u r args s) 3 D g (va_A (gw g ad0 ln0 A0 N) s.heap.size) N ad ln A [(0, gr 183), (1, gi x1)] k n 0 [] := by
  have hkn := oX6_first_b0 h
  unfold mX6_first_b0 at h
  refine g_aload_n C 0 dX6_first_0 rfl ?_
  refine g_iconst (v := 0) C dX6_first_1 (by decide) ?_
  obtain ⟨A1, eA1, h⟩ := g_lt h
  refine g_put C 183 0 tyX6 tyX6_ok nmX6 (by omega) rfl rfl gu_6 (by decide) qf_X6_35 rfl (by decide +kernel) (Nat.le_of_ble_eq_true rfl) rfl eA1 dX6_first_2 ?_
  refine g_aload_n C 0 dX6_first_5 rfl ?_
  refine g_iload_n C 1 dX6_first_6 rfl ?_
  obtain ⟨q2, eq2, h⟩ := g_bd h
  refine g_calliV C 183 [gi x1] (kX6_isPart hN hch.2 eq2) qs_X6_75 (by omega) (by omega) rfl rfl rfl rfl (Nat.le_of_ble_eq_true rfl) hkn dX6_first_7 ?_
  refine g_if_ne C dX6_first_10 (tgt := 19) (by decide) (fun c3 => ?_) (fun c3 => ?_)
  · have h := g_ff c3 h
    refine g_iconst (v := 0) C dX6_first_19 (by decide) ?_
    refine g_istore_n C dX6_first_20 (by decide) rfl ?_
    refine g_sub [1, 2, 0] rfl ?_
    exact wX6_first_L21 hN C hr gF hch h
  · have h := g_tt c3 h
    refine g_aload_n C 0 dX6_first_13 rfl ?_
    refine g_iconst (v := 1) C dX6_first_14 (by decide) ?_
    obtain ⟨q4, eq4, h⟩ := g_bd h
    refine g_calliV C 183 [gi 1] (kX6_fail hN hch.2 eq4) qs_X6_60 (by omega) (by omega) rfl rfl rfl rfl (Nat.le_of_ble_eq_true rfl) hkn dX6_first_15 ?_
    obtain ⟨rfl, h2⟩ := Prod.mk.inj (Option.some.inj h)
    obtain ⟨rfl, rfl⟩ := Prod.mk.inj h2
    exact g_retAi C hch hr dX6_first_18

set_option maxHeartbeats 2000000 in
set_option maxRecDepth 20000 in
theorem kX6_first {l : Launch} {D : va_G} {g : gT} {N : Nat} (hN : 193 ≤ N) {ad ln : Nat → Nat} {cp : Nat} (hcp : g_cap ln cp) {A A' : gM} {x1 : Int32} {u : Nat × Nat × Nat} {r : Int32} (h : mX6_first N cp A x1 = some (A', u, r)) : gAi l yX6_first cX6_first 3 (some .int) (1513) D g N ad ln A [gr 183, gi x1] A' u r := by
  refine g_metAi (by decide) (Nat.le_of_ble_eq_true rfl) ?_
  intro p e s m args below meth c C hr
  refine g_sub [0, 1] rfl ?_
  exact wX6_first_b0 hN C hr (g_chg.rf hcp) h
def mX6_length_b20 (N cp k n : Nat) (A : gM) (s0 : Int32) : Option (gM × (Nat × Nat × Nat) × Int32) :=
  some (A, (cp, k, n), s0)
def mX6_length_b5 (N cp k n : Nat) (A : gM) (s0 : Int32) : Option (gM × (Nat × Nat × Nat) × Int32) :=
  if s0 = (-1) then
  mX6_length_b20 N cp k n A 0
  else
  (mX6_codes cp 1250 A s0).bind fun q2 =>
  mX6_length_b20 N cp k n q2.1 q2.2
def mX6_length_b0 (N cp k n : Nat) (A : gM) (x1 : Int32) : Option (gM × (Nat × Nat × Nat) × Int32) :=
  (mX6_typeOf N cp A x1).bind fun q1 =>
  mX6_length_b5 N q1.2.1.1 (k + q1.2.1.2.1) (n + q1.2.1.2.2) q1.1 q1.2.2
def mX6_length (N cp : Nat) (A : gM) (x1 : Int32) : Option (gM × (Nat × Nat × Nat) × Int32) := mX6_length_b0 N cp 0 0 A x1
set_option maxHeartbeats 2000000 in
set_option maxRecDepth 20000 in
theorem oX6_length_b20 {N : Nat} {A' : gM} {u : Nat × Nat × Nat} {r : Int32}  {cp k n : Nat} {A : gM} {s0 : Int32} (h : mX6_length_b20 N cp k n A s0 = some (A', u, r)) : k ≤ u.2.1 ∧ n ≤ u.2.2 := by
  unfold mX6_length_b20 at h
  obtain ⟨rfl, h2⟩ := Prod.mk.inj (Option.some.inj h)
  obtain ⟨rfl, rfl⟩ := Prod.mk.inj h2
  exact ⟨Nat.le_refl _, Nat.le_refl _⟩

set_option maxHeartbeats 2000000 in
set_option maxRecDepth 20000 in
theorem wX6_length_b20 (hN : 193 ≤ N)  {A0 A' : gM} {u : Nat × Nat × Nat} {r : Int32} (C : gC p (g_rmx 1512 u.2.1 u.2.2) s m args meth c cX6_length RX6 3 D g (va_A (gw g ad0 ln0 A0 N) s.heap.size) 1512) (hr : meth.sig.returnType = some .int)  {cp k n : Nat} (hch : g_chg N ad0 ln0 ad ln cp) {A : gM} {s0 : Int32} (h : mX6_length_b20 N cp k n A s0 = some (A', u, r)) : gJ p l e (g_rmx 1512 u.2.1 u.2.2) s m args below meth c (gEAi below D g N ad0 ln0 A0 A' u r args s) 3 D g (va_A (gw g ad0 ln0 A0 N) s.heap.size) N ad ln A [] k n 20 [gi s0] := by
  have hkn := oX6_length_b20 h
  unfold mX6_length_b20 at h
  obtain ⟨rfl, h2⟩ := Prod.mk.inj (Option.some.inj h)
  obtain ⟨rfl, rfl⟩ := Prod.mk.inj h2
  exact g_retAi C hch hr dX6_length_20

set_option maxHeartbeats 2000000 in
set_option maxRecDepth 20000 in
theorem oX6_length_b5 {N : Nat} {A' : gM} {u : Nat × Nat × Nat} {r : Int32}  {cp k n : Nat} {A : gM} {s0 : Int32} (h : mX6_length_b5 N cp k n A s0 = some (A', u, r)) : k ≤ u.2.1 ∧ n ≤ u.2.2 := by
  unfold mX6_length_b5 at h
  by_cases c1 : s0 = (-1)
  · have h := g_tt c1 h
    exact oX6_length_b20 h
  · have h := g_ff c1 h
    obtain ⟨q2, eq2, h⟩ := g_bd h
    exact oX6_length_b20 h

set_option maxHeartbeats 2000000 in
set_option maxRecDepth 20000 in
theorem wX6_length_b5 (hN : 193 ≤ N)  {A0 A' : gM} {u : Nat × Nat × Nat} {r : Int32} (C : gC p (g_rmx 1512 u.2.1 u.2.2) s m args meth c cX6_length RX6 3 D g (va_A (gw g ad0 ln0 A0 N) s.heap.size) 1512) (hr : meth.sig.returnType = some .int)  {cp k n : Nat} (hch : g_chg N ad0 ln0 ad ln cp) {A : gM} {s0 : Int32} (h : mX6_length_b5 N cp k n A s0 = some (A', u, r)) : gJ p l e (g_rmx 1512 u.2.1 u.2.2) s m args below meth c (gEAi below D g N ad0 ln0 A0 A' u r args s) 3 D g (va_A (gw g ad0 ln0 A0 N) s.heap.size) N ad ln A [(0, gr 183)] k n 5 [gi s0] := by
  have hkn := oX6_length_b5 h
  unfold mX6_length_b5 at h
  refine g_istore_n C dX6_length_5 (by decide) rfl ?_
  refine g_iload_n C 0 dX6_length_6 rfl ?_
  refine g_iconst (v := (-1)) C dX6_length_7 (by decide) ?_
  refine g_icmp_ne C dX6_length_8 (tgt := 15) (by decide) (fun c1 => ?_) (fun c1 => ?_)
  · have h := g_ff c1 h
    refine g_aload_n C 1 dX6_length_15 rfl ?_
    refine g_iload_n C 0 dX6_length_16 rfl ?_
    obtain ⟨q2, eq2, h⟩ := g_bd h
    refine g_calliV C 183 [gi s0] (kX6_codes hN hch.2 1250 eq2) qs_X6_111 (by omega) (by omega) rfl rfl rfl rfl (Nat.le_of_ble_eq_true rfl) hkn dX6_length_17 ?_
    refine g_sub [] rfl ?_
    exact wX6_length_b20 hN C hr hch h
  · have h := g_tt c1 h
    refine g_iconst (v := 0) C dX6_length_11 (by decide) ?_
    refine g_goto C dX6_length_12 (tgt := 20) (by decide) ?_
    refine g_sub [] rfl ?_
    exact wX6_length_b20 hN C hr hch h

set_option maxHeartbeats 2000000 in
set_option maxRecDepth 20000 in
theorem oX6_length_b0 {N : Nat} {A' : gM} {u : Nat × Nat × Nat} {r : Int32}  {cp k n : Nat} {A : gM} {x1 : Int32} (h : mX6_length_b0 N cp k n A x1 = some (A', u, r)) : k ≤ u.2.1 ∧ n ≤ u.2.2 := by
  unfold mX6_length_b0 at h
  obtain ⟨q1, eq1, h⟩ := g_bd h
  have mo := oX6_length_b5 h
  exact ⟨by omega, by omega⟩

set_option maxHeartbeats 2000000 in
set_option maxRecDepth 20000 in
theorem wX6_length_b0 (hN : 193 ≤ N)  {A0 A' : gM} {u : Nat × Nat × Nat} {r : Int32} (C : gC p (g_rmx 1512 u.2.1 u.2.2) s m args meth c cX6_length RX6 3 D g (va_A (gw g ad0 ln0 A0 N) s.heap.size) 1512) (hr : meth.sig.returnType = some .int)  {cp k n : Nat} (hch : g_chg N ad0 ln0 ad ln cp) {A : gM} {x1 : Int32} (h : mX6_length_b0 N cp k n A x1 = some (A', u, r)) : gJ p l e (g_rmx 1512 u.2.1 u.2.2) s m args below meth c (gEAi below D g N ad0 ln0 A0 A' u r args s) 3 D g (va_A (gw g ad0 ln0 A0 N) s.heap.size) N ad ln A [(0, gr 183), (1, gi x1)] k n 0 [] := by
  have hkn := oX6_length_b0 h
  unfold mX6_length_b0 at h
  refine g_aload_n C 0 dX6_length_0 rfl ?_
  refine g_iload_n C 1 dX6_length_1 rfl ?_
  obtain ⟨q1, eq1, h⟩ := g_bd h
  have mo := oX6_length_b5 h
  refine g_callAiV C 183 [gi x1] (kX6_typeOf hN hch.2 eq1) qs_X6_173 (by omega) (by omega) rfl rfl rfl rfl (Nat.le_of_ble_eq_true rfl) ⟨mo.1, mo.2⟩ (And.intro ⟨by omega, by omega⟩ True.intro) True.intro dX6_length_2 (fun ad1 ln1 hch1 => ?_)
  have hch := g_chg.trans (by omega) hch hch1
  refine g_sub [0] rfl ?_
  exact wX6_length_b5 hN C hr hch h

set_option maxHeartbeats 2000000 in
set_option maxRecDepth 20000 in
theorem kX6_length {l : Launch} {D : va_G} {g : gT} {N : Nat} (hN : 193 ≤ N) {ad ln : Nat → Nat} {cp : Nat} (hcp : g_cap ln cp) {A A' : gM} {x1 : Int32} {u : Nat × Nat × Nat} {r : Int32} (h : mX6_length N cp A x1 = some (A', u, r)) : gAi l yX6_length cX6_length 3 (some .int) (1512) D g N ad ln A [gr 183, gi x1] A' u r := by
  refine g_metAi (by decide) (Nat.le_of_ble_eq_true rfl) ?_
  intro p e s m args below meth c C hr
  refine g_sub [0, 1] rfl ?_
  exact wX6_length_b0 hN C hr (g_chg.rf hcp) h
def mX6_longest_b40 (N cp k n : Nat) (K11 : Nat → Nat → Nat → gM → Int32 → Int32 → Int32 → Option (gM × (Nat × Nat × Nat) × Int32)) (A : gM) (x1 : Int32) (x2 : Int32) (x3 : Int32) : Option (gM × (Nat × Nat × Nat) × Int32) :=
  g_let (x3 + 1) fun v1 =>
  K11 cp k n A x1 x2 v1
def mX6_longest_b24 (N cp k n : Nat) (K11 : Nat → Nat → Nat → gM → Int32 → Int32 → Int32 → Option (gM × (Nat × Nat × Nat) × Int32)) (A : gM) (x1 : Int32) (x2 : Int32) (x3 : Int32) (s0 : Int32) : Option (gM × (Nat × Nat × Nat) × Int32) :=
  if x2 < s0 then
  mX6_longest_b40 N cp k n K11 A x3 s0 x3
  else
  mX6_longest_b40 N cp k n K11 A x1 x2 x3
def mX6_longest_b11 (N cp k n : Nat) (K11 : Nat → Nat → Nat → gM → Int32 → Int32 → Int32 → Option (gM × (Nat × Nat × Nat) × Int32)) (A : gM) (x1 : Int32) (x2 : Int32) (x3 : Int32) : Option (gM × (Nat × Nat × Nat) × Int32) :=
  if (A 183 1) ≤ x3 then
  some (A, (cp, k, n), x1)
  else
  (mX6_length N cp A x3).bind fun q2 =>
  mX6_longest_b24 N q2.2.1.1 (k + q2.2.1.2.1) (n + q2.2.1.2.2) K11 q2.1 x1 x2 x3 q2.2.2
def mX6_longest_L11 (N : Nat) : Nat → Nat → Nat → Nat → gM → Int32 → Int32 → Int32 → Option (gM × (Nat × Nat × Nat) × Int32)
  | 0 => fun _ _ _ _ _ _ _ => none
  | f + 1 => fun cp k n => mX6_longest_b11 N cp k n (mX6_longest_L11 N f)
def mX6_longest_b0 (N cp k n : Nat) (A : gM) : Option (gM × (Nat × Nat × Nat) × Int32) :=
  g_let (g_up A 183 0 0) fun A1 =>
  mX6_longest_L11 N gF cp k n A1 (-1) 0 0
def mX6_longest (N cp : Nat) (A : gM) : Option (gM × (Nat × Nat × Nat) × Int32) := mX6_longest_b0 N cp 0 0 A
set_option maxHeartbeats 2000000 in
set_option maxRecDepth 20000 in
theorem oX6_longest_b40 {N : Nat} {A' : gM} {u : Nat × Nat × Nat} {r : Int32} {K11 : Nat → Nat → Nat → gM → Int32 → Int32 → Int32 → Option (gM × (Nat × Nat × Nat) × Int32)} (oK11 : ∀ {cp k n : Nat} {A : gM} {x1 : Int32} {x2 : Int32} {x3 : Int32}, K11 cp k n A x1 x2 x3 = some (A', u, r) → k ≤ u.2.1 ∧ n ≤ u.2.2) {cp k n : Nat} {A : gM} {x1 : Int32} {x2 : Int32} {x3 : Int32} (h : mX6_longest_b40 N cp k n K11 A x1 x2 x3 = some (A', u, r)) : k ≤ u.2.1 ∧ n ≤ u.2.2 := by
  unfold mX6_longest_b40 at h
  obtain ⟨v1, ev1, h⟩ := g_lt h
  exact oK11 h

set_option maxHeartbeats 2000000 in
set_option maxRecDepth 20000 in
theorem wX6_longest_b40 (hN : 193 ≤ N)  {A0 A' : gM} {u : Nat × Nat × Nat} {r : Int32} (C : gC p (g_rmx 1513 u.2.1 u.2.2) s m args meth c cX6_longest RX6 5 D g (va_A (gw g ad0 ln0 A0 N) s.heap.size) 1513) (hr : meth.sig.returnType = some .int) {K11 : Nat → Nat → Nat → gM → Int32 → Int32 → Int32 → Option (gM × (Nat × Nat × Nat) × Int32)} (hK11 : ∀ {ad ln : Nat → Nat} {cp k n : Nat} (_ : g_chg N ad0 ln0 ad ln cp) {A : gM} {x1 : Int32} {x2 : Int32} {x3 : Int32}, K11 cp k n A x1 x2 x3 = some (A', u, r) → gJ p l e (g_rmx 1513 u.2.1 u.2.2) s m args below meth c (gEAi below D g N ad0 ln0 A0 A' u r args s) 5 D g (va_A (gw g ad0 ln0 A0 N) s.heap.size) N ad ln A [(0, gr 183), (1, gi x1), (2, gi x2), (3, gi x3)] k n 11 []) (oK11 : ∀ {cp k n : Nat} {A : gM} {x1 : Int32} {x2 : Int32} {x3 : Int32}, K11 cp k n A x1 x2 x3 = some (A', u, r) → k ≤ u.2.1 ∧ n ≤ u.2.2) {cp k n : Nat} (hch : g_chg N ad0 ln0 ad ln cp) {A : gM} {x1 : Int32} {x2 : Int32} {x3 : Int32} (h : mX6_longest_b40 N cp k n K11 A x1 x2 x3 = some (A', u, r)) : gJ p l e (g_rmx 1513 u.2.1 u.2.2) s m args below meth c (gEAi below D g N ad0 ln0 A0 A' u r args s) 5 D g (va_A (gw g ad0 ln0 A0 N) s.heap.size) N ad ln A [(0, gr 183), (1, gi x1), (2, gi x2), (3, gi x3)] k n 40 [] := by
  have hkn := oX6_longest_b40 oK11 h
  unfold mX6_longest_b40 at h
  obtain ⟨v1, ev1, h⟩ := g_lt h
  refine g_iinc C 3 dX6_longest_40 rfl ev1 (by decide) rfl ?_
  refine g_goto C dX6_longest_43 (tgt := 11) (by decide) ?_
  refine g_sub [1, 2, 3, 0] rfl ?_
  exact hK11 hch h

set_option maxHeartbeats 2000000 in
set_option maxRecDepth 20000 in
theorem oX6_longest_b24 {N : Nat} {A' : gM} {u : Nat × Nat × Nat} {r : Int32} {K11 : Nat → Nat → Nat → gM → Int32 → Int32 → Int32 → Option (gM × (Nat × Nat × Nat) × Int32)} (oK11 : ∀ {cp k n : Nat} {A : gM} {x1 : Int32} {x2 : Int32} {x3 : Int32}, K11 cp k n A x1 x2 x3 = some (A', u, r) → k ≤ u.2.1 ∧ n ≤ u.2.2) {cp k n : Nat} {A : gM} {x1 : Int32} {x2 : Int32} {x3 : Int32} {s0 : Int32} (h : mX6_longest_b24 N cp k n K11 A x1 x2 x3 s0 = some (A', u, r)) : k ≤ u.2.1 ∧ n ≤ u.2.2 := by
  unfold mX6_longest_b24 at h
  by_cases c1 : x2 < s0
  · have h := g_tt c1 h
    exact oX6_longest_b40 oK11 h
  · have h := g_ff c1 h
    exact oX6_longest_b40 oK11 h

set_option maxHeartbeats 2000000 in
set_option maxRecDepth 20000 in
theorem wX6_longest_b24 (hN : 193 ≤ N)  {A0 A' : gM} {u : Nat × Nat × Nat} {r : Int32} (C : gC p (g_rmx 1513 u.2.1 u.2.2) s m args meth c cX6_longest RX6 5 D g (va_A (gw g ad0 ln0 A0 N) s.heap.size) 1513) (hr : meth.sig.returnType = some .int) {K11 : Nat → Nat → Nat → gM → Int32 → Int32 → Int32 → Option (gM × (Nat × Nat × Nat) × Int32)} (hK11 : ∀ {ad ln : Nat → Nat} {cp k n : Nat} (_ : g_chg N ad0 ln0 ad ln cp) {A : gM} {x1 : Int32} {x2 : Int32} {x3 : Int32}, K11 cp k n A x1 x2 x3 = some (A', u, r) → gJ p l e (g_rmx 1513 u.2.1 u.2.2) s m args below meth c (gEAi below D g N ad0 ln0 A0 A' u r args s) 5 D g (va_A (gw g ad0 ln0 A0 N) s.heap.size) N ad ln A [(0, gr 183), (1, gi x1), (2, gi x2), (3, gi x3)] k n 11 []) (oK11 : ∀ {cp k n : Nat} {A : gM} {x1 : Int32} {x2 : Int32} {x3 : Int32}, K11 cp k n A x1 x2 x3 = some (A', u, r) → k ≤ u.2.1 ∧ n ≤ u.2.2) {cp k n : Nat} (hch : g_chg N ad0 ln0 ad ln cp) {A : gM} {x1 : Int32} {x2 : Int32} {x3 : Int32} {s0 : Int32} (h : mX6_longest_b24 N cp k n K11 A x1 x2 x3 s0 = some (A', u, r)) : gJ p l e (g_rmx 1513 u.2.1 u.2.2) s m args below meth c (gEAi below D g N ad0 ln0 A0 A' u r args s) 5 D g (va_A (gw g ad0 ln0 A0 N) s.heap.size) N ad ln A [(0, gr 183), (1, gi x1), (2, gi x2), (3, gi x3)] k n 24 [gi s0] := by
  have hkn := oX6_longest_b24 oK11 h
  unfold mX6_longest_b24 at h
  refine g_istore C dX6_longest_24 (by decide) rfl ?_
  refine g_iload C 0 dX6_longest_26 rfl ?_
  refine g_iload_n C 3 dX6_longest_28 rfl ?_
  refine g_icmp_gt C dX6_longest_29 (tgt := 35) (by decide) (fun c1 => ?_) (fun c1 => ?_)
  · have h := g_tt c1 h
    refine g_iload_n C 4 dX6_longest_35 rfl ?_
    refine g_istore_n C dX6_longest_36 (by decide) rfl ?_
    refine g_iload C 1 dX6_longest_37 rfl ?_
    refine g_istore_n C dX6_longest_39 (by decide) rfl ?_
    refine g_sub [3, 1, 0, 4] rfl ?_
    exact wX6_longest_b40 hN C hr hK11 oK11 hch h
  · have h := g_ff c1 h
    refine g_goto C dX6_longest_32 (tgt := 40) (by decide) ?_
    refine g_sub [1, 2, 3, 4] rfl ?_
    exact wX6_longest_b40 hN C hr hK11 oK11 hch h

set_option maxHeartbeats 2000000 in
set_option maxRecDepth 20000 in
theorem oX6_longest_b11 {N : Nat} {A' : gM} {u : Nat × Nat × Nat} {r : Int32} {K11 : Nat → Nat → Nat → gM → Int32 → Int32 → Int32 → Option (gM × (Nat × Nat × Nat) × Int32)} (oK11 : ∀ {cp k n : Nat} {A : gM} {x1 : Int32} {x2 : Int32} {x3 : Int32}, K11 cp k n A x1 x2 x3 = some (A', u, r) → k ≤ u.2.1 ∧ n ≤ u.2.2) {cp k n : Nat} {A : gM} {x1 : Int32} {x2 : Int32} {x3 : Int32} (h : mX6_longest_b11 N cp k n K11 A x1 x2 x3 = some (A', u, r)) : k ≤ u.2.1 ∧ n ≤ u.2.2 := by
  unfold mX6_longest_b11 at h
  by_cases c1 : (A 183 1) ≤ x3
  · have h := g_tt c1 h
    obtain ⟨rfl, h2⟩ := Prod.mk.inj (Option.some.inj h)
    obtain ⟨rfl, rfl⟩ := Prod.mk.inj h2
    exact ⟨Nat.le_refl _, Nat.le_refl _⟩
  · have h := g_ff c1 h
    obtain ⟨q2, eq2, h⟩ := g_bd h
    have mo := oX6_longest_b24 oK11 h
    exact ⟨by omega, by omega⟩

set_option maxHeartbeats 2000000 in
set_option maxRecDepth 20000 in
theorem wX6_longest_b11 (hN : 193 ≤ N)  {A0 A' : gM} {u : Nat × Nat × Nat} {r : Int32} (C : gC p (g_rmx 1513 u.2.1 u.2.2) s m args meth c cX6_longest RX6 5 D g (va_A (gw g ad0 ln0 A0 N) s.heap.size) 1513) (hr : meth.sig.returnType = some .int) {K11 : Nat → Nat → Nat → gM → Int32 → Int32 → Int32 → Option (gM × (Nat × Nat × Nat) × Int32)} (hK11 : ∀ {ad ln : Nat → Nat} {cp k n : Nat} (_ : g_chg N ad0 ln0 ad ln cp) {A : gM} {x1 : Int32} {x2 : Int32} {x3 : Int32}, K11 cp k n A x1 x2 x3 = some (A', u, r) → gJ p l e (g_rmx 1513 u.2.1 u.2.2) s m args below meth c (gEAi below D g N ad0 ln0 A0 A' u r args s) 5 D g (va_A (gw g ad0 ln0 A0 N) s.heap.size) N ad ln A [(0, gr 183), (1, gi x1), (2, gi x2), (3, gi x3)] k n 11 []) (oK11 : ∀ {cp k n : Nat} {A : gM} {x1 : Int32} {x2 : Int32} {x3 : Int32}, K11 cp k n A x1 x2 x3 = some (A', u, r) → k ≤ u.2.1 ∧ n ≤ u.2.2) {cp k n : Nat} (hch : g_chg N ad0 ln0 ad ln cp) {A : gM} {x1 : Int32} {x2 : Int32} {x3 : Int32} (h : mX6_longest_b11 N cp k n K11 A x1 x2 x3 = some (A', u, r)) : gJ p l e (g_rmx 1513 u.2.1 u.2.2) s m args below meth c (gEAi below D g N ad0 ln0 A0 A' u r args s) 5 D g (va_A (gw g ad0 ln0 A0 N) s.heap.size) N ad ln A [(0, gr 183), (1, gi x1), (2, gi x2), (3, gi x3)] k n 11 [] := by
  have hkn := oX6_longest_b11 oK11 h
  unfold mX6_longest_b11 at h
  refine g_iload_n C 3 dX6_longest_11 rfl ?_
  refine g_aload_n C 0 dX6_longest_12 rfl ?_
  refine g_get (v := gi (A 183 1)) C 183 1 (by omega) rfl rfl gu_6 (by decide) qf_X6_39 rfl dX6_longest_13 ?_
  refine g_icmp_ge C dX6_longest_16 (tgt := 46) (by decide) (fun c1 => ?_) (fun c1 => ?_)
  · have h := g_tt c1 h
    refine g_iload_n C 1 dX6_longest_46 rfl ?_
    obtain ⟨rfl, h2⟩ := Prod.mk.inj (Option.some.inj h)
    obtain ⟨rfl, rfl⟩ := Prod.mk.inj h2
    exact g_retAi C hch hr dX6_longest_47
  · have h := g_ff c1 h
    refine g_aload_n C 0 dX6_longest_19 rfl ?_
    refine g_iload_n C 3 dX6_longest_20 rfl ?_
    obtain ⟨q2, eq2, h⟩ := g_bd h
    have mo := oX6_longest_b24 oK11 h
    refine g_callAiV C 183 [gi x3] (kX6_length hN hch.2 eq2) qs_X6_205 (by omega) (by omega) rfl rfl rfl rfl (Nat.le_of_ble_eq_true rfl) ⟨mo.1, mo.2⟩ (And.intro ⟨by omega, by omega⟩ True.intro) True.intro dX6_longest_21 (fun ad1 ln1 hch1 => ?_)
    have hch := g_chg.trans (by omega) hch hch1
    refine g_sub [0, 1, 2, 3] rfl ?_
    exact wX6_longest_b24 hN C hr hK11 oK11 hch h

set_option maxHeartbeats 2000000 in
set_option maxRecDepth 20000 in
theorem oX6_longest_L11 {N : Nat} {A' : gM} {u : Nat × Nat × Nat} {r : Int32}  : ∀ (f : Nat) {cp k n : Nat} {A : gM} {x1 : Int32} {x2 : Int32} {x3 : Int32}, mX6_longest_L11 N f cp k n A x1 x2 x3 = some (A', u, r) → k ≤ u.2.1 ∧ n ≤ u.2.2
  | 0, _, _, _, A, x1, x2, x3, h => by cases h
  | f + 1, cp, k, n, A, x1, x2, x3, h => oX6_longest_b11 (K11 := mX6_longest_L11 N f) (fun h => oX6_longest_L11 f h) h
set_option maxHeartbeats 2000000 in
set_option maxRecDepth 20000 in
theorem wX6_longest_L11 (hN : 193 ≤ N)  {A0 A' : gM} {u : Nat × Nat × Nat} {r : Int32} (C : gC p (g_rmx 1513 u.2.1 u.2.2) s m args meth c cX6_longest RX6 5 D g (va_A (gw g ad0 ln0 A0 N) s.heap.size) 1513) (hr : meth.sig.returnType = some .int)  : ∀ (f : Nat) {ad ln : Nat → Nat} {cp k n : Nat} (_ : g_chg N ad0 ln0 ad ln cp) {A : gM} {x1 : Int32} {x2 : Int32} {x3 : Int32}, mX6_longest_L11 N f cp k n A x1 x2 x3 = some (A', u, r) → gJ p l e (g_rmx 1513 u.2.1 u.2.2) s m args below meth c (gEAi below D g N ad0 ln0 A0 A' u r args s) 5 D g (va_A (gw g ad0 ln0 A0 N) s.heap.size) N ad ln A [(0, gr 183), (1, gi x1), (2, gi x2), (3, gi x3)] k n 11 []
  | 0, ad, ln, cp, k, n, hch, A, x1, x2, x3, h => by cases h
  | f + 1, ad, ln, cp, k, n, hch, A, x1, x2, x3, h => wX6_longest_b11 (K11 := mX6_longest_L11 N f) hN C hr (fun {ad ln} {cp k n} hch {A} {x1} {x2} {x3} h => wX6_longest_L11 hN C hr f hch h) (fun h => oX6_longest_L11 f h) hch h
set_option maxHeartbeats 2000000 in
set_option maxRecDepth 20000 in
theorem oX6_longest_b0 {N : Nat} {A' : gM} {u : Nat × Nat × Nat} {r : Int32}  {cp k n : Nat} {A : gM} (h : mX6_longest_b0 N cp k n A = some (A', u, r)) : k ≤ u.2.1 ∧ n ≤ u.2.2 := by
  unfold mX6_longest_b0 at h
  obtain ⟨A1, eA1, h⟩ := g_lt h
  exact oX6_longest_L11 gF h

set_option maxHeartbeats 2000000 in
set_option maxRecDepth 20000 in
theorem wX6_longest_b0 (hN : 193 ≤ N)  {A0 A' : gM} {u : Nat × Nat × Nat} {r : Int32} (C : gC p (g_rmx 1513 u.2.1 u.2.2) s m args meth c cX6_longest RX6 5 D g (va_A (gw g ad0 ln0 A0 N) s.heap.size) 1513) (hr : meth.sig.returnType = some .int)  {cp k n : Nat} (hch : g_chg N ad0 ln0 ad ln cp) {A : gM} (h : mX6_longest_b0 N cp k n A = some (A', u, r)) : gJ p l e (g_rmx 1513 u.2.1 u.2.2) s m args below meth c (gEAi below D g N ad0 ln0 A0 A' u r args s) 5 D g (va_A (gw g ad0 ln0 A0 N) s.heap.size) N ad ln A [(0, gr 183)] k n 0 [] := by
  have hkn := oX6_longest_b0 h
  unfold mX6_longest_b0 at h
  refine g_aload_n C 0 dX6_longest_0 rfl ?_
  refine g_iconst (v := 0) C dX6_longest_1 (by decide) ?_
  obtain ⟨A1, eA1, h⟩ := g_lt h
  refine g_put C 183 0 tyX6 tyX6_ok nmX6 (by omega) rfl rfl gu_6 (by decide) qf_X6_35 rfl (by decide +kernel) (Nat.le_of_ble_eq_true rfl) rfl eA1 dX6_longest_2 ?_
  refine g_iconst (v := (-1)) C dX6_longest_5 (by decide) ?_
  refine g_istore_n C dX6_longest_6 (by decide) rfl ?_
  refine g_iconst (v := 0) C dX6_longest_7 (by decide) ?_
  refine g_istore_n C dX6_longest_8 (by decide) rfl ?_
  refine g_iconst (v := 0) C dX6_longest_9 (by decide) ?_
  refine g_istore_n C dX6_longest_10 (by decide) rfl ?_
  refine g_sub [3, 2, 1, 0] rfl ?_
  exact wX6_longest_L11 hN C hr gF hch h

set_option maxHeartbeats 2000000 in
set_option maxRecDepth 20000 in
theorem kX6_longest {l : Launch} {D : va_G} {g : gT} {N : Nat} (hN : 193 ≤ N) {ad ln : Nat → Nat} {cp : Nat} (hcp : g_cap ln cp) {A A' : gM} {u : Nat × Nat × Nat} {r : Int32} (h : mX6_longest N cp A = some (A', u, r)) : gAi l yX6_longest cX6_longest 5 (some .int) (1513) D g N ad ln A [gr 183] A' u r := by
  refine g_metAi (by decide) (Nat.le_of_ble_eq_true rfl) ?_
  intro p e s m args below meth c C hr
  refine g_sub [0] rfl ?_
  exact wX6_longest_b0 hN C hr (g_chg.rf hcp) h
def mX6_digest_b122 (N cp k n : Nat) (K38 : Nat → Nat → Nat → gM → Int64 → Int32 → Option (gM × (Nat × Nat × Nat) × Int64)) (K122 : Nat → Nat → Nat → gM → Int64 → Int32 → Nat → Int32 → Int32 → Option (gM × (Nat × Nat × Nat) × Int64)) (A : gM) (x1 : Int64) (x3 : Int32) (wx4 : Nat) (x5 : Int32) (x6 : Int32) : Option (gM × (Nat × Nat × Nat) × Int64) :=
  if x5 ≤ x6 then
  g_let (x3 + 1) fun v2 =>
  K38 cp k n A x1 v2
  else
  if g_in x6 wx4 = true then
  g_let (A N x6.toNatClampNeg) fun v4 =>
  g_let ((x1 * 31) + v4.toInt64) fun v5 =>
  g_let (x6 + 1) fun v6 =>
  K122 cp k n A v5 x3 wx4 x5 v6
  else none
def mX6_digest_L122 (N : Nat) (K38 : Nat → Nat → Nat → gM → Int64 → Int32 → Option (gM × (Nat × Nat × Nat) × Int64)) : Nat → Nat → Nat → Nat → gM → Int64 → Int32 → Nat → Int32 → Int32 → Option (gM × (Nat × Nat × Nat) × Int64)
  | 0 => fun _ _ _ _ _ _ _ _ _ => none
  | f + 1 => fun cp k n => mX6_digest_b122 N cp k n K38 (mX6_digest_L122 N K38 f)
def mX6_digest_b112 (N cp k n : Nat) (K38 : Nat → Nat → Nat → gM → Int64 → Int32 → Option (gM × (Nat × Nat × Nat) × Int64)) (A : gM) (x1 : Int64) (x3 : Int32) (ws0 : Nat) : Option (gM × (Nat × Nat × Nat) × Int64) :=
  g_let (Int32.ofNat ws0) fun v1 =>
  mX6_digest_L122 N K38 gF cp k n A x1 x3 ws0 v1 0
def mX6_digest_b98 (N cp k n : Nat) (K38 : Nat → Nat → Nat → gM → Int64 → Int32 → Option (gM × (Nat × Nat × Nat) × Int64)) (K80 : Nat → Nat → Nat → gM → Int64 → Int32 → Int32 → Option (gM × (Nat × Nat × Nat) × Int64)) (A : gM) (x3 : Int32) (x4 : Int32) (s0 : Int64) (s1 : Int32) : Option (gM × (Nat × Nat × Nat) × Int64) :=
  g_let (s0 + s1.toInt64) fun v1 =>
  g_let (x4 + 1) fun v2 =>
  K80 cp k n A v1 x3 v2
def mX6_digest_b80 (N cp k n : Nat) (K38 : Nat → Nat → Nat → gM → Int64 → Int32 → Option (gM × (Nat × Nat × Nat) × Int64)) (K80 : Nat → Nat → Nat → gM → Int64 → Int32 → Int32 → Option (gM × (Nat × Nat × Nat) × Int64)) (A : gM) (x1 : Int64) (x3 : Int32) (x4 : Int32) : Option (gM × (Nat × Nat × Nat) × Int64) :=
  if 5 ≤ x4 then
  (mX6_row N cp A x3).bind fun q2 =>
  mX6_digest_b112 N q2.2.1.1 (k + q2.2.1.2.1) (n + q2.2.1.2.2) K38 q2.1 x1 x3 q2.2.2
  else
  (mX6_typeTold N cp A x3 x4).bind fun q3 =>
  mX6_digest_b98 N q3.2.1.1 (k + q3.2.1.2.1) (n + q3.2.1.2.2) K38 K80 q3.1 x3 x4 (x1 * 31) q3.2.2
def mX6_digest_L80 (N : Nat) (K38 : Nat → Nat → Nat → gM → Int64 → Int32 → Option (gM × (Nat × Nat × Nat) × Int64)) : Nat → Nat → Nat → Nat → gM → Int64 → Int32 → Int32 → Option (gM × (Nat × Nat × Nat) × Int64)
  | 0 => fun _ _ _ _ _ _ _ => none
  | f + 1 => fun cp k n => mX6_digest_b80 N cp k n K38 (mX6_digest_L80 N K38 f)
def mX6_digest_b49 (N cp k n : Nat) (K38 : Nat → Nat → Nat → gM → Int64 → Int32 → Option (gM × (Nat × Nat × Nat) × Int64)) (K49 : Nat → Nat → Nat → gM → Int64 → Int32 → Int32 → Option (gM × (Nat × Nat × Nat) × Int64)) (A : gM) (x1 : Int64) (x3 : Int32) (x4 : Int32) : Option (gM × (Nat × Nat × Nat) × Int64) :=
  if 7 ≤ x4 then
  mX6_digest_L80 N K38 gF cp k n A x1 x3 0
  else
  (mX6_partTold cp A x3 x4).bind fun q2 =>
  g_let ((x1 * 31) + q2.2.toInt64) fun v3 =>
  g_let (x4 + 1) fun v4 =>
  K49 cp k n q2.1 v3 x3 v4
def mX6_digest_L49 (N : Nat) (K38 : Nat → Nat → Nat → gM → Int64 → Int32 → Option (gM × (Nat × Nat × Nat) × Int64)) : Nat → Nat → Nat → Nat → gM → Int64 → Int32 → Int32 → Option (gM × (Nat × Nat × Nat) × Int64)
  | 0 => fun _ _ _ _ _ _ _ => none
  | f + 1 => fun cp k n => mX6_digest_b49 N cp k n K38 (mX6_digest_L49 N K38 f)
def mX6_digest_b38 (N cp k n : Nat) (K38 : Nat → Nat → Nat → gM → Int64 → Int32 → Option (gM × (Nat × Nat × Nat) × Int64)) (A : gM) (x1 : Int64) (x3 : Int32) : Option (gM × (Nat × Nat × Nat) × Int64) :=
  if (A 183 1) ≤ x3 then
  some (A, (cp, k, n), x1)
  else
  mX6_digest_L49 N K38 gF cp k n A x1 x3 0
def mX6_digest_L38 (N : Nat) : Nat → Nat → Nat → Nat → gM → Int64 → Int32 → Option (gM × (Nat × Nat × Nat) × Int64)
  | 0 => fun _ _ _ _ _ _ => none
  | f + 1 => fun cp k n => mX6_digest_b38 N cp k n (mX6_digest_L38 N f)
def mX6_digest_b27 (N cp k n : Nat) (K11 : Nat → Nat → Nat → gM → Int64 → Int32 → Option (gM × (Nat × Nat × Nat) × Int64)) (A : gM) (x3 : Int32) (s0 : Int64) (s1 : Int32) : Option (gM × (Nat × Nat × Nat) × Int64) :=
  g_let (s0 + s1.toInt64) fun v1 =>
  g_let (x3 + 1) fun v2 =>
  K11 cp k n A v1 v2
def mX6_digest_b11 (N cp k n : Nat) (K11 : Nat → Nat → Nat → gM → Int64 → Int32 → Option (gM × (Nat × Nat × Nat) × Int64)) (A : gM) (x1 : Int64) (x3 : Int32) : Option (gM × (Nat × Nat × Nat) × Int64) :=
  if 6 ≤ x3 then
  mX6_digest_L38 N gF cp k n A x1 0
  else
  (mX6_counted N cp A x3).bind fun q2 =>
  mX6_digest_b27 N q2.2.1.1 (k + q2.2.1.2.1) (n + q2.2.1.2.2) K11 q2.1 x3 (x1 * 31) q2.2.2
def mX6_digest_L11 (N : Nat) : Nat → Nat → Nat → Nat → gM → Int64 → Int32 → Option (gM × (Nat × Nat × Nat) × Int64)
  | 0 => fun _ _ _ _ _ _ => none
  | f + 1 => fun cp k n => mX6_digest_b11 N cp k n (mX6_digest_L11 N f)
def mX6_digest_b0 (N cp k n : Nat) (A : gM) : Option (gM × (Nat × Nat × Nat) × Int64) :=
  g_let (g_up A 183 0 0) fun A1 =>
  mX6_digest_L11 N gF cp k n A1 1597 0
def mX6_digest (N cp : Nat) (A : gM) : Option (gM × (Nat × Nat × Nat) × Int64) := mX6_digest_b0 N cp 0 0 A
set_option maxHeartbeats 2000000 in
set_option maxRecDepth 20000 in
theorem oX6_digest_b122 {N : Nat} {A' : gM} {u : Nat × Nat × Nat} {r : Int64} {K38 : Nat → Nat → Nat → gM → Int64 → Int32 → Option (gM × (Nat × Nat × Nat) × Int64)} {K122 : Nat → Nat → Nat → gM → Int64 → Int32 → Nat → Int32 → Int32 → Option (gM × (Nat × Nat × Nat) × Int64)} (oK38 : ∀ {cp k n : Nat} {A : gM} {x1 : Int64} {x3 : Int32}, K38 cp k n A x1 x3 = some (A', u, r) → k ≤ u.2.1 ∧ n ≤ u.2.2) (oK122 : ∀ {cp k n : Nat} {A : gM} {x1 : Int64} {x3 : Int32} {wx4 : Nat} {x5 : Int32} {x6 : Int32}, K122 cp k n A x1 x3 wx4 x5 x6 = some (A', u, r) → k ≤ u.2.1 ∧ n ≤ u.2.2) {cp k n : Nat} {A : gM} {x1 : Int64} {x3 : Int32} {wx4 : Nat} {x5 : Int32} {x6 : Int32} (h : mX6_digest_b122 N cp k n K38 K122 A x1 x3 wx4 x5 x6 = some (A', u, r)) : k ≤ u.2.1 ∧ n ≤ u.2.2 := by
  unfold mX6_digest_b122 at h
  by_cases c1 : x5 ≤ x6
  · have h := g_tt c1 h
    obtain ⟨v2, ev2, h⟩ := g_lt h
    exact oK38 h
  · have h := g_ff c1 h
    obtain ⟨hg3, h⟩ := g_gd h
    obtain ⟨v4, ev4, h⟩ := g_lt h
    obtain ⟨v5, ev5, h⟩ := g_lt h
    obtain ⟨v6, ev6, h⟩ := g_lt h
    exact oK122 h

set_option maxHeartbeats 2000000 in
set_option maxRecDepth 20000 in
theorem wX6_digest_b122 (hN : 193 ≤ N)  {A0 A' : gM} {u : Nat × Nat × Nat} {r : Int64} (C : gC p (g_rmx 1514 u.2.1 u.2.2) s m args meth c cX6_digest RX6 8 D g (va_A (gw g ad0 ln0 A0 N) s.heap.size) 1514) (hr : meth.sig.returnType = some .long) {K38 : Nat → Nat → Nat → gM → Int64 → Int32 → Option (gM × (Nat × Nat × Nat) × Int64)} {K122 : Nat → Nat → Nat → gM → Int64 → Int32 → Nat → Int32 → Int32 → Option (gM × (Nat × Nat × Nat) × Int64)} (hK38 : ∀ {ad ln : Nat → Nat} {cp k n : Nat} (_ : g_chg N ad0 ln0 ad ln cp) {A : gM} {x1 : Int64} {x3 : Int32}, K38 cp k n A x1 x3 = some (A', u, r) → gJ p l e (g_rmx 1514 u.2.1 u.2.2) s m args below meth c (gEAl below D g N ad0 ln0 A0 A' u r args s) 8 D g (va_A (gw g ad0 ln0 A0 N) s.heap.size) N ad ln A [(0, gr 183), (1, gl x1), (3, gi x3)] k n 38 []) (oK38 : ∀ {cp k n : Nat} {A : gM} {x1 : Int64} {x3 : Int32}, K38 cp k n A x1 x3 = some (A', u, r) → k ≤ u.2.1 ∧ n ≤ u.2.2) (hK122 : ∀ {ad ln : Nat → Nat} {cp k n : Nat} (_ : g_chg N ad0 ln0 ad ln cp) {A : gM} {x1 : Int64} {x3 : Int32} {wx4 : Nat} {x5 : Int32} {x6 : Int32} (_ : g_ln ln N = wx4), K122 cp k n A x1 x3 wx4 x5 x6 = some (A', u, r) → gJ p l e (g_rmx 1514 u.2.1 u.2.2) s m args below meth c (gEAl below D g N ad0 ln0 A0 A' u r args s) 8 D g (va_A (gw g ad0 ln0 A0 N) s.heap.size) (N + 1) ad ln A [(0, gr 183), (1, gl x1), (3, gi x3), (4, gr N), (5, gi x5), (6, gi x6)] k n 122 []) (oK122 : ∀ {cp k n : Nat} {A : gM} {x1 : Int64} {x3 : Int32} {wx4 : Nat} {x5 : Int32} {x6 : Int32}, K122 cp k n A x1 x3 wx4 x5 x6 = some (A', u, r) → k ≤ u.2.1 ∧ n ≤ u.2.2) {cp k n : Nat} (hch : g_chg N ad0 ln0 ad ln cp) {A : gM} {x1 : Int64} {x3 : Int32} {wx4 : Nat} {x5 : Int32} {x6 : Int32} (hwx4 : g_ln ln N = wx4) (h : mX6_digest_b122 N cp k n K38 K122 A x1 x3 wx4 x5 x6 = some (A', u, r)) : gJ p l e (g_rmx 1514 u.2.1 u.2.2) s m args below meth c (gEAl below D g N ad0 ln0 A0 A' u r args s) 8 D g (va_A (gw g ad0 ln0 A0 N) s.heap.size) (N + 1) ad ln A [(0, gr 183), (1, gl x1), (3, gi x3), (4, gr N), (5, gi x5), (6, gi x6)] k n 122 [] := by
  have hkn := oX6_digest_b122 oK38 oK122 h
  unfold mX6_digest_b122 at h
  refine g_iload C 5 dX6_digest_122 rfl ?_
  refine g_iload C 4 dX6_digest_124 rfl ?_
  refine g_icmp_ge C dX6_digest_126 (tgt := 152) (by decide) (fun c1 => ?_) (fun c1 => ?_)
  · have h := g_tt c1 h
    obtain ⟨v2, ev2, h⟩ := g_lt h
    refine g_iinc C 2 dX6_digest_152 rfl ev2 (by decide) rfl ?_
    refine g_goto C dX6_digest_155 (tgt := 38) (by decide) ?_
    refine g_sub [1, 2, 0] rfl ?_
    refine g_drop ?_
    exact hK38 hch h
  · have h := g_ff c1 h
    refine g_aload C 3 dX6_digest_129 rfl ?_
    refine g_iload C 5 dX6_digest_131 rfl ?_
    obtain ⟨hg3, h⟩ := g_gd h
    refine g_iald C N (by omega) (g_isI_big (by omega)) hwx4 hg3 dX6_digest_133 ?_
    obtain ⟨v4, ev4, h⟩ := g_lt h
    refine g_topi ev4 ?_
    refine g_istore C dX6_digest_134 (by decide) rfl ?_
    refine g_lload_n C 2 dX6_digest_136 rfl ?_
    refine g_ldc2 C qc_X6_210 dX6_digest_137 ?_
    refine g_lmul C dX6_digest_140 ?_
    refine g_iload C 0 dX6_digest_141 rfl ?_
    refine g_i2l C dX6_digest_143 ?_
    refine g_ladd C dX6_digest_144 ?_
    obtain ⟨v5, ev5, h⟩ := g_lt h
    refine g_topl ev5 ?_
    refine g_lstore_n C dX6_digest_145 (by decide) rfl ?_
    obtain ⟨v6, ev6, h⟩ := g_lt h
    refine g_iinc C 6 dX6_digest_146 rfl ev6 (by decide) rfl ?_
    refine g_goto C dX6_digest_149 (tgt := 122) (by decide) ?_
    refine g_sub [3, 1, 4, 5, 6, 0] rfl ?_
    exact hK122 hch hwx4 h

set_option maxHeartbeats 2000000 in
set_option maxRecDepth 20000 in
theorem oX6_digest_L122 {N : Nat} {A' : gM} {u : Nat × Nat × Nat} {r : Int64} {K38 : Nat → Nat → Nat → gM → Int64 → Int32 → Option (gM × (Nat × Nat × Nat) × Int64)} (oK38 : ∀ {cp k n : Nat} {A : gM} {x1 : Int64} {x3 : Int32}, K38 cp k n A x1 x3 = some (A', u, r) → k ≤ u.2.1 ∧ n ≤ u.2.2) : ∀ (f : Nat) {cp k n : Nat} {A : gM} {x1 : Int64} {x3 : Int32} {wx4 : Nat} {x5 : Int32} {x6 : Int32}, mX6_digest_L122 N K38 f cp k n A x1 x3 wx4 x5 x6 = some (A', u, r) → k ≤ u.2.1 ∧ n ≤ u.2.2
  | 0, _, _, _, A, x1, x3, wx4, x5, x6, h => by cases h
  | f + 1, cp, k, n, A, x1, x3, wx4, x5, x6, h => oX6_digest_b122 (K122 := mX6_digest_L122 N K38 f) oK38 (fun h => oX6_digest_L122 oK38 f h) h
set_option maxHeartbeats 2000000 in
set_option maxRecDepth 20000 in
theorem wX6_digest_L122 (hN : 193 ≤ N)  {A0 A' : gM} {u : Nat × Nat × Nat} {r : Int64} (C : gC p (g_rmx 1514 u.2.1 u.2.2) s m args meth c cX6_digest RX6 8 D g (va_A (gw g ad0 ln0 A0 N) s.heap.size) 1514) (hr : meth.sig.returnType = some .long) {K38 : Nat → Nat → Nat → gM → Int64 → Int32 → Option (gM × (Nat × Nat × Nat) × Int64)} (hK38 : ∀ {ad ln : Nat → Nat} {cp k n : Nat} (_ : g_chg N ad0 ln0 ad ln cp) {A : gM} {x1 : Int64} {x3 : Int32}, K38 cp k n A x1 x3 = some (A', u, r) → gJ p l e (g_rmx 1514 u.2.1 u.2.2) s m args below meth c (gEAl below D g N ad0 ln0 A0 A' u r args s) 8 D g (va_A (gw g ad0 ln0 A0 N) s.heap.size) N ad ln A [(0, gr 183), (1, gl x1), (3, gi x3)] k n 38 []) (oK38 : ∀ {cp k n : Nat} {A : gM} {x1 : Int64} {x3 : Int32}, K38 cp k n A x1 x3 = some (A', u, r) → k ≤ u.2.1 ∧ n ≤ u.2.2) : ∀ (f : Nat) {ad ln : Nat → Nat} {cp k n : Nat} (_ : g_chg N ad0 ln0 ad ln cp) {A : gM} {x1 : Int64} {x3 : Int32} {wx4 : Nat} {x5 : Int32} {x6 : Int32} (_ : g_ln ln N = wx4), mX6_digest_L122 N K38 f cp k n A x1 x3 wx4 x5 x6 = some (A', u, r) → gJ p l e (g_rmx 1514 u.2.1 u.2.2) s m args below meth c (gEAl below D g N ad0 ln0 A0 A' u r args s) 8 D g (va_A (gw g ad0 ln0 A0 N) s.heap.size) (N + 1) ad ln A [(0, gr 183), (1, gl x1), (3, gi x3), (4, gr N), (5, gi x5), (6, gi x6)] k n 122 []
  | 0, ad, ln, cp, k, n, hch, A, x1, x3, wx4, x5, x6, hwx4, h => by cases h
  | f + 1, ad, ln, cp, k, n, hch, A, x1, x3, wx4, x5, x6, hwx4, h => wX6_digest_b122 (K122 := mX6_digest_L122 N K38 f) hN C hr hK38 oK38 (fun {ad ln} {cp k n} hch {A} {x1} {x3} {wx4} {x5} {x6} hwx4 h => wX6_digest_L122 hN C hr hK38 oK38 f hch hwx4 h) (fun h => oX6_digest_L122 oK38 f h) hch hwx4 h
set_option maxHeartbeats 2000000 in
set_option maxRecDepth 20000 in
theorem oX6_digest_b112 {N : Nat} {A' : gM} {u : Nat × Nat × Nat} {r : Int64} {K38 : Nat → Nat → Nat → gM → Int64 → Int32 → Option (gM × (Nat × Nat × Nat) × Int64)} (oK38 : ∀ {cp k n : Nat} {A : gM} {x1 : Int64} {x3 : Int32}, K38 cp k n A x1 x3 = some (A', u, r) → k ≤ u.2.1 ∧ n ≤ u.2.2) {cp k n : Nat} {A : gM} {x1 : Int64} {x3 : Int32} {ws0 : Nat} (h : mX6_digest_b112 N cp k n K38 A x1 x3 ws0 = some (A', u, r)) : k ≤ u.2.1 ∧ n ≤ u.2.2 := by
  unfold mX6_digest_b112 at h
  obtain ⟨v1, ev1, h⟩ := g_lt h
  exact oX6_digest_L122 oK38 gF h

set_option maxHeartbeats 2000000 in
set_option maxRecDepth 20000 in
theorem wX6_digest_b112 (hN : 193 ≤ N)  {A0 A' : gM} {u : Nat × Nat × Nat} {r : Int64} (C : gC p (g_rmx 1514 u.2.1 u.2.2) s m args meth c cX6_digest RX6 8 D g (va_A (gw g ad0 ln0 A0 N) s.heap.size) 1514) (hr : meth.sig.returnType = some .long) {K38 : Nat → Nat → Nat → gM → Int64 → Int32 → Option (gM × (Nat × Nat × Nat) × Int64)} (hK38 : ∀ {ad ln : Nat → Nat} {cp k n : Nat} (_ : g_chg N ad0 ln0 ad ln cp) {A : gM} {x1 : Int64} {x3 : Int32}, K38 cp k n A x1 x3 = some (A', u, r) → gJ p l e (g_rmx 1514 u.2.1 u.2.2) s m args below meth c (gEAl below D g N ad0 ln0 A0 A' u r args s) 8 D g (va_A (gw g ad0 ln0 A0 N) s.heap.size) N ad ln A [(0, gr 183), (1, gl x1), (3, gi x3)] k n 38 []) (oK38 : ∀ {cp k n : Nat} {A : gM} {x1 : Int64} {x3 : Int32}, K38 cp k n A x1 x3 = some (A', u, r) → k ≤ u.2.1 ∧ n ≤ u.2.2) {cp k n : Nat} (hch : g_chg N ad0 ln0 ad ln cp) {A : gM} {x1 : Int64} {x3 : Int32} {ws0 : Nat} (hws0 : g_ln ln N = ws0) (h : mX6_digest_b112 N cp k n K38 A x1 x3 ws0 = some (A', u, r)) : gJ p l e (g_rmx 1514 u.2.1 u.2.2) s m args below meth c (gEAl below D g N ad0 ln0 A0 A' u r args s) 8 D g (va_A (gw g ad0 ln0 A0 N) s.heap.size) (N + 1) ad ln A [(0, gr 183), (1, gl x1), (3, gi x3)] k n 112 [gr N] := by
  have hkn := oX6_digest_b112 oK38 h
  unfold mX6_digest_b112 at h
  refine g_astore C dX6_digest_112 (by decide) rfl ?_
  refine g_aload C 0 dX6_digest_114 rfl ?_
  refine g_alen (v := Int32.ofNat ws0) C N (by omega) (g_isI_big (by omega)) (by rw [hws0]) dX6_digest_116 ?_
  obtain ⟨v1, ev1, h⟩ := g_lt h
  refine g_topi ev1 ?_
  refine g_istore C dX6_digest_117 (by decide) rfl ?_
  refine g_iconst (v := 0) C dX6_digest_119 (by decide) ?_
  refine g_istore C dX6_digest_120 (by decide) rfl ?_
  refine g_sub [3, 4, 5, 2, 1, 0] rfl ?_
  exact wX6_digest_L122 hN C hr hK38 oK38 gF hch hws0 h

set_option maxHeartbeats 2000000 in
set_option maxRecDepth 20000 in
theorem oX6_digest_b98 {N : Nat} {A' : gM} {u : Nat × Nat × Nat} {r : Int64} {K38 : Nat → Nat → Nat → gM → Int64 → Int32 → Option (gM × (Nat × Nat × Nat) × Int64)} {K80 : Nat → Nat → Nat → gM → Int64 → Int32 → Int32 → Option (gM × (Nat × Nat × Nat) × Int64)} (oK38 : ∀ {cp k n : Nat} {A : gM} {x1 : Int64} {x3 : Int32}, K38 cp k n A x1 x3 = some (A', u, r) → k ≤ u.2.1 ∧ n ≤ u.2.2) (oK80 : ∀ {cp k n : Nat} {A : gM} {x1 : Int64} {x3 : Int32} {x4 : Int32}, K80 cp k n A x1 x3 x4 = some (A', u, r) → k ≤ u.2.1 ∧ n ≤ u.2.2) {cp k n : Nat} {A : gM} {x3 : Int32} {x4 : Int32} {s0 : Int64} {s1 : Int32} (h : mX6_digest_b98 N cp k n K38 K80 A x3 x4 s0 s1 = some (A', u, r)) : k ≤ u.2.1 ∧ n ≤ u.2.2 := by
  unfold mX6_digest_b98 at h
  obtain ⟨v1, ev1, h⟩ := g_lt h
  obtain ⟨v2, ev2, h⟩ := g_lt h
  exact oK80 h

set_option maxHeartbeats 2000000 in
set_option maxRecDepth 20000 in
theorem wX6_digest_b98 (hN : 193 ≤ N)  {A0 A' : gM} {u : Nat × Nat × Nat} {r : Int64} (C : gC p (g_rmx 1514 u.2.1 u.2.2) s m args meth c cX6_digest RX6 8 D g (va_A (gw g ad0 ln0 A0 N) s.heap.size) 1514) (hr : meth.sig.returnType = some .long) {K38 : Nat → Nat → Nat → gM → Int64 → Int32 → Option (gM × (Nat × Nat × Nat) × Int64)} {K80 : Nat → Nat → Nat → gM → Int64 → Int32 → Int32 → Option (gM × (Nat × Nat × Nat) × Int64)} (hK38 : ∀ {ad ln : Nat → Nat} {cp k n : Nat} (_ : g_chg N ad0 ln0 ad ln cp) {A : gM} {x1 : Int64} {x3 : Int32}, K38 cp k n A x1 x3 = some (A', u, r) → gJ p l e (g_rmx 1514 u.2.1 u.2.2) s m args below meth c (gEAl below D g N ad0 ln0 A0 A' u r args s) 8 D g (va_A (gw g ad0 ln0 A0 N) s.heap.size) N ad ln A [(0, gr 183), (1, gl x1), (3, gi x3)] k n 38 []) (oK38 : ∀ {cp k n : Nat} {A : gM} {x1 : Int64} {x3 : Int32}, K38 cp k n A x1 x3 = some (A', u, r) → k ≤ u.2.1 ∧ n ≤ u.2.2) (hK80 : ∀ {ad ln : Nat → Nat} {cp k n : Nat} (_ : g_chg N ad0 ln0 ad ln cp) {A : gM} {x1 : Int64} {x3 : Int32} {x4 : Int32}, K80 cp k n A x1 x3 x4 = some (A', u, r) → gJ p l e (g_rmx 1514 u.2.1 u.2.2) s m args below meth c (gEAl below D g N ad0 ln0 A0 A' u r args s) 8 D g (va_A (gw g ad0 ln0 A0 N) s.heap.size) N ad ln A [(0, gr 183), (1, gl x1), (3, gi x3), (4, gi x4)] k n 80 []) (oK80 : ∀ {cp k n : Nat} {A : gM} {x1 : Int64} {x3 : Int32} {x4 : Int32}, K80 cp k n A x1 x3 x4 = some (A', u, r) → k ≤ u.2.1 ∧ n ≤ u.2.2) {cp k n : Nat} (hch : g_chg N ad0 ln0 ad ln cp) {A : gM} {x3 : Int32} {x4 : Int32} {s0 : Int64} {s1 : Int32} (h : mX6_digest_b98 N cp k n K38 K80 A x3 x4 s0 s1 = some (A', u, r)) : gJ p l e (g_rmx 1514 u.2.1 u.2.2) s m args below meth c (gEAl below D g N ad0 ln0 A0 A' u r args s) 8 D g (va_A (gw g ad0 ln0 A0 N) s.heap.size) N ad ln A [(0, gr 183), (3, gi x3), (4, gi x4)] k n 98 [gi s1, gl s0] := by
  have hkn := oX6_digest_b98 oK38 oK80 h
  unfold mX6_digest_b98 at h
  refine g_i2l C dX6_digest_98 ?_
  refine g_ladd C dX6_digest_99 ?_
  obtain ⟨v1, ev1, h⟩ := g_lt h
  refine g_topl ev1 ?_
  refine g_lstore_n C dX6_digest_100 (by decide) rfl ?_
  obtain ⟨v2, ev2, h⟩ := g_lt h
  refine g_iinc C 3 dX6_digest_101 rfl ev2 (by decide) rfl ?_
  refine g_goto C dX6_digest_104 (tgt := 80) (by decide) ?_
  refine g_sub [2, 1, 3, 0] rfl ?_
  exact hK80 hch h

set_option maxHeartbeats 2000000 in
set_option maxRecDepth 20000 in
theorem oX6_digest_b80 {N : Nat} {A' : gM} {u : Nat × Nat × Nat} {r : Int64} {K38 : Nat → Nat → Nat → gM → Int64 → Int32 → Option (gM × (Nat × Nat × Nat) × Int64)} {K80 : Nat → Nat → Nat → gM → Int64 → Int32 → Int32 → Option (gM × (Nat × Nat × Nat) × Int64)} (oK38 : ∀ {cp k n : Nat} {A : gM} {x1 : Int64} {x3 : Int32}, K38 cp k n A x1 x3 = some (A', u, r) → k ≤ u.2.1 ∧ n ≤ u.2.2) (oK80 : ∀ {cp k n : Nat} {A : gM} {x1 : Int64} {x3 : Int32} {x4 : Int32}, K80 cp k n A x1 x3 x4 = some (A', u, r) → k ≤ u.2.1 ∧ n ≤ u.2.2) {cp k n : Nat} {A : gM} {x1 : Int64} {x3 : Int32} {x4 : Int32} (h : mX6_digest_b80 N cp k n K38 K80 A x1 x3 x4 = some (A', u, r)) : k ≤ u.2.1 ∧ n ≤ u.2.2 := by
  unfold mX6_digest_b80 at h
  by_cases c1 : 5 ≤ x4
  · have h := g_tt c1 h
    obtain ⟨q2, eq2, h⟩ := g_bd h
    have mo := oX6_digest_b112 oK38 h
    exact ⟨by omega, by omega⟩
  · have h := g_ff c1 h
    obtain ⟨q3, eq3, h⟩ := g_bd h
    have mo := oX6_digest_b98 oK38 oK80 h
    exact ⟨by omega, by omega⟩

set_option maxHeartbeats 2000000 in
set_option maxRecDepth 20000 in
theorem wX6_digest_b80 (hN : 193 ≤ N)  {A0 A' : gM} {u : Nat × Nat × Nat} {r : Int64} (C : gC p (g_rmx 1514 u.2.1 u.2.2) s m args meth c cX6_digest RX6 8 D g (va_A (gw g ad0 ln0 A0 N) s.heap.size) 1514) (hr : meth.sig.returnType = some .long) {K38 : Nat → Nat → Nat → gM → Int64 → Int32 → Option (gM × (Nat × Nat × Nat) × Int64)} {K80 : Nat → Nat → Nat → gM → Int64 → Int32 → Int32 → Option (gM × (Nat × Nat × Nat) × Int64)} (hK38 : ∀ {ad ln : Nat → Nat} {cp k n : Nat} (_ : g_chg N ad0 ln0 ad ln cp) {A : gM} {x1 : Int64} {x3 : Int32}, K38 cp k n A x1 x3 = some (A', u, r) → gJ p l e (g_rmx 1514 u.2.1 u.2.2) s m args below meth c (gEAl below D g N ad0 ln0 A0 A' u r args s) 8 D g (va_A (gw g ad0 ln0 A0 N) s.heap.size) N ad ln A [(0, gr 183), (1, gl x1), (3, gi x3)] k n 38 []) (oK38 : ∀ {cp k n : Nat} {A : gM} {x1 : Int64} {x3 : Int32}, K38 cp k n A x1 x3 = some (A', u, r) → k ≤ u.2.1 ∧ n ≤ u.2.2) (hK80 : ∀ {ad ln : Nat → Nat} {cp k n : Nat} (_ : g_chg N ad0 ln0 ad ln cp) {A : gM} {x1 : Int64} {x3 : Int32} {x4 : Int32}, K80 cp k n A x1 x3 x4 = some (A', u, r) → gJ p l e (g_rmx 1514 u.2.1 u.2.2) s m args below meth c (gEAl below D g N ad0 ln0 A0 A' u r args s) 8 D g (va_A (gw g ad0 ln0 A0 N) s.heap.size) N ad ln A [(0, gr 183), (1, gl x1), (3, gi x3), (4, gi x4)] k n 80 []) (oK80 : ∀ {cp k n : Nat} {A : gM} {x1 : Int64} {x3 : Int32} {x4 : Int32}, K80 cp k n A x1 x3 x4 = some (A', u, r) → k ≤ u.2.1 ∧ n ≤ u.2.2) {cp k n : Nat} (hch : g_chg N ad0 ln0 ad ln cp) {A : gM} {x1 : Int64} {x3 : Int32} {x4 : Int32} (h : mX6_digest_b80 N cp k n K38 K80 A x1 x3 x4 = some (A', u, r)) : gJ p l e (g_rmx 1514 u.2.1 u.2.2) s m args below meth c (gEAl below D g N ad0 ln0 A0 A' u r args s) 8 D g (va_A (gw g ad0 ln0 A0 N) s.heap.size) N ad ln A [(0, gr 183), (1, gl x1), (3, gi x3), (4, gi x4)] k n 80 [] := by
  have hkn := oX6_digest_b80 oK38 oK80 h
  unfold mX6_digest_b80 at h
  refine g_iload C 3 dX6_digest_80 rfl ?_
  refine g_iconst (v := 5) C dX6_digest_82 (by decide) ?_
  refine g_icmp_ge C dX6_digest_83 (tgt := 107) (by decide) (fun c1 => ?_) (fun c1 => ?_)
  · have h := g_tt c1 h
    refine g_aload_n C 0 dX6_digest_107 rfl ?_
    refine g_iload_n C 2 dX6_digest_108 rfl ?_
    obtain ⟨q2, eq2, h⟩ := g_bd h
    have mo := oX6_digest_b112 oK38 h
    refine g_callArV C 183 [gi x3] (kX6_row hN hch.2 eq2) qs_X6_188 (by omega) (by omega) rfl rfl rfl rfl (Nat.le_of_ble_eq_true rfl) ⟨mo.1, mo.2⟩ (And.intro ⟨by omega, by omega⟩ True.intro) True.intro dX6_digest_109 (fun ad1 ln1 hch1 hlw => ?_)
    have hch := g_chg.trans (by omega) hch hch1
    refine g_sub [0, 1, 2] rfl ?_
    exact wX6_digest_b112 hN C hr hK38 oK38 hch ((g_ln_big (by omega)).trans hlw) h
  · have h := g_ff c1 h
    refine g_lload_n C 1 dX6_digest_86 rfl ?_
    refine g_ldc2 C qc_X6_210 dX6_digest_87 ?_
    refine g_lmul C dX6_digest_90 ?_
    refine g_aload_n C 0 dX6_digest_91 rfl ?_
    refine g_iload_n C 2 dX6_digest_92 rfl ?_
    refine g_iload C 3 dX6_digest_93 rfl ?_
    obtain ⟨q3, eq3, h⟩ := g_bd h
    have mo := oX6_digest_b98 oK38 oK80 h
    refine g_callAiV C 183 [gi x3, gi x4] (kX6_typeTold hN hch.2 eq3) qs_X6_192 (by omega) (by omega) rfl rfl rfl rfl (Nat.le_of_ble_eq_true rfl) ⟨mo.1, mo.2⟩ (And.intro ⟨by omega, by omega⟩ True.intro) True.intro dX6_digest_95 (fun ad1 ln1 hch1 => ?_)
    have hch := g_chg.trans (by omega) hch hch1
    refine g_sub [0, 2, 3] rfl ?_
    exact wX6_digest_b98 hN C hr hK38 oK38 hK80 oK80 hch h

set_option maxHeartbeats 2000000 in
set_option maxRecDepth 20000 in
theorem oX6_digest_L80 {N : Nat} {A' : gM} {u : Nat × Nat × Nat} {r : Int64} {K38 : Nat → Nat → Nat → gM → Int64 → Int32 → Option (gM × (Nat × Nat × Nat) × Int64)} (oK38 : ∀ {cp k n : Nat} {A : gM} {x1 : Int64} {x3 : Int32}, K38 cp k n A x1 x3 = some (A', u, r) → k ≤ u.2.1 ∧ n ≤ u.2.2) : ∀ (f : Nat) {cp k n : Nat} {A : gM} {x1 : Int64} {x3 : Int32} {x4 : Int32}, mX6_digest_L80 N K38 f cp k n A x1 x3 x4 = some (A', u, r) → k ≤ u.2.1 ∧ n ≤ u.2.2
  | 0, _, _, _, A, x1, x3, x4, h => by cases h
  | f + 1, cp, k, n, A, x1, x3, x4, h => oX6_digest_b80 (K80 := mX6_digest_L80 N K38 f) oK38 (fun h => oX6_digest_L80 oK38 f h) h
set_option maxHeartbeats 2000000 in
set_option maxRecDepth 20000 in
theorem wX6_digest_L80 (hN : 193 ≤ N)  {A0 A' : gM} {u : Nat × Nat × Nat} {r : Int64} (C : gC p (g_rmx 1514 u.2.1 u.2.2) s m args meth c cX6_digest RX6 8 D g (va_A (gw g ad0 ln0 A0 N) s.heap.size) 1514) (hr : meth.sig.returnType = some .long) {K38 : Nat → Nat → Nat → gM → Int64 → Int32 → Option (gM × (Nat × Nat × Nat) × Int64)} (hK38 : ∀ {ad ln : Nat → Nat} {cp k n : Nat} (_ : g_chg N ad0 ln0 ad ln cp) {A : gM} {x1 : Int64} {x3 : Int32}, K38 cp k n A x1 x3 = some (A', u, r) → gJ p l e (g_rmx 1514 u.2.1 u.2.2) s m args below meth c (gEAl below D g N ad0 ln0 A0 A' u r args s) 8 D g (va_A (gw g ad0 ln0 A0 N) s.heap.size) N ad ln A [(0, gr 183), (1, gl x1), (3, gi x3)] k n 38 []) (oK38 : ∀ {cp k n : Nat} {A : gM} {x1 : Int64} {x3 : Int32}, K38 cp k n A x1 x3 = some (A', u, r) → k ≤ u.2.1 ∧ n ≤ u.2.2) : ∀ (f : Nat) {ad ln : Nat → Nat} {cp k n : Nat} (_ : g_chg N ad0 ln0 ad ln cp) {A : gM} {x1 : Int64} {x3 : Int32} {x4 : Int32}, mX6_digest_L80 N K38 f cp k n A x1 x3 x4 = some (A', u, r) → gJ p l e (g_rmx 1514 u.2.1 u.2.2) s m args below meth c (gEAl below D g N ad0 ln0 A0 A' u r args s) 8 D g (va_A (gw g ad0 ln0 A0 N) s.heap.size) N ad ln A [(0, gr 183), (1, gl x1), (3, gi x3), (4, gi x4)] k n 80 []
  | 0, ad, ln, cp, k, n, hch, A, x1, x3, x4, h => by cases h
  | f + 1, ad, ln, cp, k, n, hch, A, x1, x3, x4, h => wX6_digest_b80 (K80 := mX6_digest_L80 N K38 f) hN C hr hK38 oK38 (fun {ad ln} {cp k n} hch {A} {x1} {x3} {x4} h => wX6_digest_L80 hN C hr hK38 oK38 f hch h) (fun h => oX6_digest_L80 oK38 f h) hch h
set_option maxHeartbeats 2000000 in
set_option maxRecDepth 20000 in
theorem oX6_digest_b49 {N : Nat} {A' : gM} {u : Nat × Nat × Nat} {r : Int64} {K38 : Nat → Nat → Nat → gM → Int64 → Int32 → Option (gM × (Nat × Nat × Nat) × Int64)} {K49 : Nat → Nat → Nat → gM → Int64 → Int32 → Int32 → Option (gM × (Nat × Nat × Nat) × Int64)} (oK38 : ∀ {cp k n : Nat} {A : gM} {x1 : Int64} {x3 : Int32}, K38 cp k n A x1 x3 = some (A', u, r) → k ≤ u.2.1 ∧ n ≤ u.2.2) (oK49 : ∀ {cp k n : Nat} {A : gM} {x1 : Int64} {x3 : Int32} {x4 : Int32}, K49 cp k n A x1 x3 x4 = some (A', u, r) → k ≤ u.2.1 ∧ n ≤ u.2.2) {cp k n : Nat} {A : gM} {x1 : Int64} {x3 : Int32} {x4 : Int32} (h : mX6_digest_b49 N cp k n K38 K49 A x1 x3 x4 = some (A', u, r)) : k ≤ u.2.1 ∧ n ≤ u.2.2 := by
  unfold mX6_digest_b49 at h
  by_cases c1 : 7 ≤ x4
  · have h := g_tt c1 h
    exact oX6_digest_L80 oK38 gF h
  · have h := g_ff c1 h
    obtain ⟨q2, eq2, h⟩ := g_bd h
    obtain ⟨v3, ev3, h⟩ := g_lt h
    obtain ⟨v4, ev4, h⟩ := g_lt h
    exact oK49 h

set_option maxHeartbeats 2000000 in
set_option maxRecDepth 20000 in
theorem wX6_digest_b49 (hN : 193 ≤ N)  {A0 A' : gM} {u : Nat × Nat × Nat} {r : Int64} (C : gC p (g_rmx 1514 u.2.1 u.2.2) s m args meth c cX6_digest RX6 8 D g (va_A (gw g ad0 ln0 A0 N) s.heap.size) 1514) (hr : meth.sig.returnType = some .long) {K38 : Nat → Nat → Nat → gM → Int64 → Int32 → Option (gM × (Nat × Nat × Nat) × Int64)} {K49 : Nat → Nat → Nat → gM → Int64 → Int32 → Int32 → Option (gM × (Nat × Nat × Nat) × Int64)} (hK38 : ∀ {ad ln : Nat → Nat} {cp k n : Nat} (_ : g_chg N ad0 ln0 ad ln cp) {A : gM} {x1 : Int64} {x3 : Int32}, K38 cp k n A x1 x3 = some (A', u, r) → gJ p l e (g_rmx 1514 u.2.1 u.2.2) s m args below meth c (gEAl below D g N ad0 ln0 A0 A' u r args s) 8 D g (va_A (gw g ad0 ln0 A0 N) s.heap.size) N ad ln A [(0, gr 183), (1, gl x1), (3, gi x3)] k n 38 []) (oK38 : ∀ {cp k n : Nat} {A : gM} {x1 : Int64} {x3 : Int32}, K38 cp k n A x1 x3 = some (A', u, r) → k ≤ u.2.1 ∧ n ≤ u.2.2) (hK49 : ∀ {ad ln : Nat → Nat} {cp k n : Nat} (_ : g_chg N ad0 ln0 ad ln cp) {A : gM} {x1 : Int64} {x3 : Int32} {x4 : Int32}, K49 cp k n A x1 x3 x4 = some (A', u, r) → gJ p l e (g_rmx 1514 u.2.1 u.2.2) s m args below meth c (gEAl below D g N ad0 ln0 A0 A' u r args s) 8 D g (va_A (gw g ad0 ln0 A0 N) s.heap.size) N ad ln A [(0, gr 183), (1, gl x1), (3, gi x3), (4, gi x4)] k n 49 []) (oK49 : ∀ {cp k n : Nat} {A : gM} {x1 : Int64} {x3 : Int32} {x4 : Int32}, K49 cp k n A x1 x3 x4 = some (A', u, r) → k ≤ u.2.1 ∧ n ≤ u.2.2) {cp k n : Nat} (hch : g_chg N ad0 ln0 ad ln cp) {A : gM} {x1 : Int64} {x3 : Int32} {x4 : Int32} (h : mX6_digest_b49 N cp k n K38 K49 A x1 x3 x4 = some (A', u, r)) : gJ p l e (g_rmx 1514 u.2.1 u.2.2) s m args below meth c (gEAl below D g N ad0 ln0 A0 A' u r args s) 8 D g (va_A (gw g ad0 ln0 A0 N) s.heap.size) N ad ln A [(0, gr 183), (1, gl x1), (3, gi x3), (4, gi x4)] k n 49 [] := by
  have hkn := oX6_digest_b49 oK38 oK49 h
  unfold mX6_digest_b49 at h
  refine g_iload C 3 dX6_digest_49 rfl ?_
  refine g_bipush (v := 7) C dX6_digest_51 (by decide) ?_
  refine g_icmp_ge C dX6_digest_53 (tgt := 77) (by decide) (fun c1 => ?_) (fun c1 => ?_)
  · have h := g_tt c1 h
    refine g_iconst (v := 0) C dX6_digest_77 (by decide) ?_
    refine g_istore C dX6_digest_78 (by decide) rfl ?_
    refine g_sub [1, 2, 3, 0] rfl ?_
    exact wX6_digest_L80 hN C hr hK38 oK38 gF hch h
  · have h := g_ff c1 h
    refine g_lload_n C 1 dX6_digest_56 rfl ?_
    refine g_ldc2 C qc_X6_210 dX6_digest_57 ?_
    refine g_lmul C dX6_digest_60 ?_
    refine g_aload_n C 0 dX6_digest_61 rfl ?_
    refine g_iload_n C 2 dX6_digest_62 rfl ?_
    refine g_iload C 3 dX6_digest_63 rfl ?_
    obtain ⟨q2, eq2, h⟩ := g_bd h
    refine g_calliV C 183 [gi x3, gi x4] (kX6_partTold hN hch.2 eq2) qs_X6_185 (by omega) (by omega) rfl rfl rfl rfl (Nat.le_of_ble_eq_true rfl) hkn dX6_digest_65 ?_
    refine g_i2l C dX6_digest_68 ?_
    refine g_ladd C dX6_digest_69 ?_
    obtain ⟨v3, ev3, h⟩ := g_lt h
    refine g_topl ev3 ?_
    refine g_lstore_n C dX6_digest_70 (by decide) rfl ?_
    obtain ⟨v4, ev4, h⟩ := g_lt h
    refine g_iinc C 3 dX6_digest_71 rfl ev4 (by decide) rfl ?_
    refine g_goto C dX6_digest_74 (tgt := 49) (by decide) ?_
    refine g_sub [2, 1, 3, 0] rfl ?_
    exact hK49 hch h

set_option maxHeartbeats 2000000 in
set_option maxRecDepth 20000 in
theorem oX6_digest_L49 {N : Nat} {A' : gM} {u : Nat × Nat × Nat} {r : Int64} {K38 : Nat → Nat → Nat → gM → Int64 → Int32 → Option (gM × (Nat × Nat × Nat) × Int64)} (oK38 : ∀ {cp k n : Nat} {A : gM} {x1 : Int64} {x3 : Int32}, K38 cp k n A x1 x3 = some (A', u, r) → k ≤ u.2.1 ∧ n ≤ u.2.2) : ∀ (f : Nat) {cp k n : Nat} {A : gM} {x1 : Int64} {x3 : Int32} {x4 : Int32}, mX6_digest_L49 N K38 f cp k n A x1 x3 x4 = some (A', u, r) → k ≤ u.2.1 ∧ n ≤ u.2.2
  | 0, _, _, _, A, x1, x3, x4, h => by cases h
  | f + 1, cp, k, n, A, x1, x3, x4, h => oX6_digest_b49 (K49 := mX6_digest_L49 N K38 f) oK38 (fun h => oX6_digest_L49 oK38 f h) h
set_option maxHeartbeats 2000000 in
set_option maxRecDepth 20000 in
theorem wX6_digest_L49 (hN : 193 ≤ N)  {A0 A' : gM} {u : Nat × Nat × Nat} {r : Int64} (C : gC p (g_rmx 1514 u.2.1 u.2.2) s m args meth c cX6_digest RX6 8 D g (va_A (gw g ad0 ln0 A0 N) s.heap.size) 1514) (hr : meth.sig.returnType = some .long) {K38 : Nat → Nat → Nat → gM → Int64 → Int32 → Option (gM × (Nat × Nat × Nat) × Int64)} (hK38 : ∀ {ad ln : Nat → Nat} {cp k n : Nat} (_ : g_chg N ad0 ln0 ad ln cp) {A : gM} {x1 : Int64} {x3 : Int32}, K38 cp k n A x1 x3 = some (A', u, r) → gJ p l e (g_rmx 1514 u.2.1 u.2.2) s m args below meth c (gEAl below D g N ad0 ln0 A0 A' u r args s) 8 D g (va_A (gw g ad0 ln0 A0 N) s.heap.size) N ad ln A [(0, gr 183), (1, gl x1), (3, gi x3)] k n 38 []) (oK38 : ∀ {cp k n : Nat} {A : gM} {x1 : Int64} {x3 : Int32}, K38 cp k n A x1 x3 = some (A', u, r) → k ≤ u.2.1 ∧ n ≤ u.2.2) : ∀ (f : Nat) {ad ln : Nat → Nat} {cp k n : Nat} (_ : g_chg N ad0 ln0 ad ln cp) {A : gM} {x1 : Int64} {x3 : Int32} {x4 : Int32}, mX6_digest_L49 N K38 f cp k n A x1 x3 x4 = some (A', u, r) → gJ p l e (g_rmx 1514 u.2.1 u.2.2) s m args below meth c (gEAl below D g N ad0 ln0 A0 A' u r args s) 8 D g (va_A (gw g ad0 ln0 A0 N) s.heap.size) N ad ln A [(0, gr 183), (1, gl x1), (3, gi x3), (4, gi x4)] k n 49 []
  | 0, ad, ln, cp, k, n, hch, A, x1, x3, x4, h => by cases h
  | f + 1, ad, ln, cp, k, n, hch, A, x1, x3, x4, h => wX6_digest_b49 (K49 := mX6_digest_L49 N K38 f) hN C hr hK38 oK38 (fun {ad ln} {cp k n} hch {A} {x1} {x3} {x4} h => wX6_digest_L49 hN C hr hK38 oK38 f hch h) (fun h => oX6_digest_L49 oK38 f h) hch h
set_option maxHeartbeats 2000000 in
set_option maxRecDepth 20000 in
theorem oX6_digest_b38 {N : Nat} {A' : gM} {u : Nat × Nat × Nat} {r : Int64} {K38 : Nat → Nat → Nat → gM → Int64 → Int32 → Option (gM × (Nat × Nat × Nat) × Int64)} (oK38 : ∀ {cp k n : Nat} {A : gM} {x1 : Int64} {x3 : Int32}, K38 cp k n A x1 x3 = some (A', u, r) → k ≤ u.2.1 ∧ n ≤ u.2.2) {cp k n : Nat} {A : gM} {x1 : Int64} {x3 : Int32} (h : mX6_digest_b38 N cp k n K38 A x1 x3 = some (A', u, r)) : k ≤ u.2.1 ∧ n ≤ u.2.2 := by
  unfold mX6_digest_b38 at h
  by_cases c1 : (A 183 1) ≤ x3
  · have h := g_tt c1 h
    obtain ⟨rfl, h2⟩ := Prod.mk.inj (Option.some.inj h)
    obtain ⟨rfl, rfl⟩ := Prod.mk.inj h2
    exact ⟨Nat.le_refl _, Nat.le_refl _⟩
  · have h := g_ff c1 h
    exact oX6_digest_L49 oK38 gF h

set_option maxHeartbeats 2000000 in
set_option maxRecDepth 20000 in
theorem wX6_digest_b38 (hN : 193 ≤ N)  {A0 A' : gM} {u : Nat × Nat × Nat} {r : Int64} (C : gC p (g_rmx 1514 u.2.1 u.2.2) s m args meth c cX6_digest RX6 8 D g (va_A (gw g ad0 ln0 A0 N) s.heap.size) 1514) (hr : meth.sig.returnType = some .long) {K38 : Nat → Nat → Nat → gM → Int64 → Int32 → Option (gM × (Nat × Nat × Nat) × Int64)} (hK38 : ∀ {ad ln : Nat → Nat} {cp k n : Nat} (_ : g_chg N ad0 ln0 ad ln cp) {A : gM} {x1 : Int64} {x3 : Int32}, K38 cp k n A x1 x3 = some (A', u, r) → gJ p l e (g_rmx 1514 u.2.1 u.2.2) s m args below meth c (gEAl below D g N ad0 ln0 A0 A' u r args s) 8 D g (va_A (gw g ad0 ln0 A0 N) s.heap.size) N ad ln A [(0, gr 183), (1, gl x1), (3, gi x3)] k n 38 []) (oK38 : ∀ {cp k n : Nat} {A : gM} {x1 : Int64} {x3 : Int32}, K38 cp k n A x1 x3 = some (A', u, r) → k ≤ u.2.1 ∧ n ≤ u.2.2) {cp k n : Nat} (hch : g_chg N ad0 ln0 ad ln cp) {A : gM} {x1 : Int64} {x3 : Int32} (h : mX6_digest_b38 N cp k n K38 A x1 x3 = some (A', u, r)) : gJ p l e (g_rmx 1514 u.2.1 u.2.2) s m args below meth c (gEAl below D g N ad0 ln0 A0 A' u r args s) 8 D g (va_A (gw g ad0 ln0 A0 N) s.heap.size) N ad ln A [(0, gr 183), (1, gl x1), (3, gi x3)] k n 38 [] := by
  have hkn := oX6_digest_b38 oK38 h
  unfold mX6_digest_b38 at h
  refine g_iload_n C 2 dX6_digest_38 rfl ?_
  refine g_aload_n C 0 dX6_digest_39 rfl ?_
  refine g_get (v := gi (A 183 1)) C 183 1 (by omega) rfl rfl gu_6 (by decide) qf_X6_39 rfl dX6_digest_40 ?_
  refine g_icmp_ge C dX6_digest_43 (tgt := 158) (by decide) (fun c1 => ?_) (fun c1 => ?_)
  · have h := g_tt c1 h
    refine g_lload_n C 1 dX6_digest_158 rfl ?_
    obtain ⟨rfl, h2⟩ := Prod.mk.inj (Option.some.inj h)
    obtain ⟨rfl, rfl⟩ := Prod.mk.inj h2
    exact g_retAl C hch hr dX6_digest_159
  · have h := g_ff c1 h
    refine g_iconst (v := 0) C dX6_digest_46 (by decide) ?_
    refine g_istore C dX6_digest_47 (by decide) rfl ?_
    refine g_sub [1, 2, 3, 0] rfl ?_
    exact wX6_digest_L49 hN C hr hK38 oK38 gF hch h

set_option maxHeartbeats 2000000 in
set_option maxRecDepth 20000 in
theorem oX6_digest_L38 {N : Nat} {A' : gM} {u : Nat × Nat × Nat} {r : Int64}  : ∀ (f : Nat) {cp k n : Nat} {A : gM} {x1 : Int64} {x3 : Int32}, mX6_digest_L38 N f cp k n A x1 x3 = some (A', u, r) → k ≤ u.2.1 ∧ n ≤ u.2.2
  | 0, _, _, _, A, x1, x3, h => by cases h
  | f + 1, cp, k, n, A, x1, x3, h => oX6_digest_b38 (K38 := mX6_digest_L38 N f) (fun h => oX6_digest_L38 f h) h
set_option maxHeartbeats 2000000 in
set_option maxRecDepth 20000 in
theorem wX6_digest_L38 (hN : 193 ≤ N)  {A0 A' : gM} {u : Nat × Nat × Nat} {r : Int64} (C : gC p (g_rmx 1514 u.2.1 u.2.2) s m args meth c cX6_digest RX6 8 D g (va_A (gw g ad0 ln0 A0 N) s.heap.size) 1514) (hr : meth.sig.returnType = some .long)  : ∀ (f : Nat) {ad ln : Nat → Nat} {cp k n : Nat} (_ : g_chg N ad0 ln0 ad ln cp) {A : gM} {x1 : Int64} {x3 : Int32}, mX6_digest_L38 N f cp k n A x1 x3 = some (A', u, r) → gJ p l e (g_rmx 1514 u.2.1 u.2.2) s m args below meth c (gEAl below D g N ad0 ln0 A0 A' u r args s) 8 D g (va_A (gw g ad0 ln0 A0 N) s.heap.size) N ad ln A [(0, gr 183), (1, gl x1), (3, gi x3)] k n 38 []
  | 0, ad, ln, cp, k, n, hch, A, x1, x3, h => by cases h
  | f + 1, ad, ln, cp, k, n, hch, A, x1, x3, h => wX6_digest_b38 (K38 := mX6_digest_L38 N f) hN C hr (fun {ad ln} {cp k n} hch {A} {x1} {x3} h => wX6_digest_L38 hN C hr f hch h) (fun h => oX6_digest_L38 f h) hch h
set_option maxHeartbeats 2000000 in
set_option maxRecDepth 20000 in
theorem oX6_digest_b27 {N : Nat} {A' : gM} {u : Nat × Nat × Nat} {r : Int64} {K11 : Nat → Nat → Nat → gM → Int64 → Int32 → Option (gM × (Nat × Nat × Nat) × Int64)} (oK11 : ∀ {cp k n : Nat} {A : gM} {x1 : Int64} {x3 : Int32}, K11 cp k n A x1 x3 = some (A', u, r) → k ≤ u.2.1 ∧ n ≤ u.2.2) {cp k n : Nat} {A : gM} {x3 : Int32} {s0 : Int64} {s1 : Int32} (h : mX6_digest_b27 N cp k n K11 A x3 s0 s1 = some (A', u, r)) : k ≤ u.2.1 ∧ n ≤ u.2.2 := by
  unfold mX6_digest_b27 at h
  obtain ⟨v1, ev1, h⟩ := g_lt h
  obtain ⟨v2, ev2, h⟩ := g_lt h
  exact oK11 h

set_option maxHeartbeats 2000000 in
set_option maxRecDepth 20000 in
theorem wX6_digest_b27 (hN : 193 ≤ N)  {A0 A' : gM} {u : Nat × Nat × Nat} {r : Int64} (C : gC p (g_rmx 1514 u.2.1 u.2.2) s m args meth c cX6_digest RX6 8 D g (va_A (gw g ad0 ln0 A0 N) s.heap.size) 1514) (hr : meth.sig.returnType = some .long) {K11 : Nat → Nat → Nat → gM → Int64 → Int32 → Option (gM × (Nat × Nat × Nat) × Int64)} (hK11 : ∀ {ad ln : Nat → Nat} {cp k n : Nat} (_ : g_chg N ad0 ln0 ad ln cp) {A : gM} {x1 : Int64} {x3 : Int32}, K11 cp k n A x1 x3 = some (A', u, r) → gJ p l e (g_rmx 1514 u.2.1 u.2.2) s m args below meth c (gEAl below D g N ad0 ln0 A0 A' u r args s) 8 D g (va_A (gw g ad0 ln0 A0 N) s.heap.size) N ad ln A [(0, gr 183), (1, gl x1), (3, gi x3)] k n 11 []) (oK11 : ∀ {cp k n : Nat} {A : gM} {x1 : Int64} {x3 : Int32}, K11 cp k n A x1 x3 = some (A', u, r) → k ≤ u.2.1 ∧ n ≤ u.2.2) {cp k n : Nat} (hch : g_chg N ad0 ln0 ad ln cp) {A : gM} {x3 : Int32} {s0 : Int64} {s1 : Int32} (h : mX6_digest_b27 N cp k n K11 A x3 s0 s1 = some (A', u, r)) : gJ p l e (g_rmx 1514 u.2.1 u.2.2) s m args below meth c (gEAl below D g N ad0 ln0 A0 A' u r args s) 8 D g (va_A (gw g ad0 ln0 A0 N) s.heap.size) N ad ln A [(0, gr 183), (3, gi x3)] k n 27 [gi s1, gl s0] := by
  have hkn := oX6_digest_b27 oK11 h
  unfold mX6_digest_b27 at h
  refine g_i2l C dX6_digest_27 ?_
  refine g_ladd C dX6_digest_28 ?_
  obtain ⟨v1, ev1, h⟩ := g_lt h
  refine g_topl ev1 ?_
  refine g_lstore_n C dX6_digest_29 (by decide) rfl ?_
  obtain ⟨v2, ev2, h⟩ := g_lt h
  refine g_iinc C 2 dX6_digest_30 rfl ev2 (by decide) rfl ?_
  refine g_goto C dX6_digest_33 (tgt := 11) (by decide) ?_
  refine g_sub [2, 1, 0] rfl ?_
  exact hK11 hch h

set_option maxHeartbeats 2000000 in
set_option maxRecDepth 20000 in
theorem oX6_digest_b11 {N : Nat} {A' : gM} {u : Nat × Nat × Nat} {r : Int64} {K11 : Nat → Nat → Nat → gM → Int64 → Int32 → Option (gM × (Nat × Nat × Nat) × Int64)} (oK11 : ∀ {cp k n : Nat} {A : gM} {x1 : Int64} {x3 : Int32}, K11 cp k n A x1 x3 = some (A', u, r) → k ≤ u.2.1 ∧ n ≤ u.2.2) {cp k n : Nat} {A : gM} {x1 : Int64} {x3 : Int32} (h : mX6_digest_b11 N cp k n K11 A x1 x3 = some (A', u, r)) : k ≤ u.2.1 ∧ n ≤ u.2.2 := by
  unfold mX6_digest_b11 at h
  by_cases c1 : 6 ≤ x3
  · have h := g_tt c1 h
    exact oX6_digest_L38 gF h
  · have h := g_ff c1 h
    obtain ⟨q2, eq2, h⟩ := g_bd h
    have mo := oX6_digest_b27 oK11 h
    exact ⟨by omega, by omega⟩

set_option maxHeartbeats 2000000 in
set_option maxRecDepth 20000 in
theorem wX6_digest_b11 (hN : 193 ≤ N)  {A0 A' : gM} {u : Nat × Nat × Nat} {r : Int64} (C : gC p (g_rmx 1514 u.2.1 u.2.2) s m args meth c cX6_digest RX6 8 D g (va_A (gw g ad0 ln0 A0 N) s.heap.size) 1514) (hr : meth.sig.returnType = some .long) {K11 : Nat → Nat → Nat → gM → Int64 → Int32 → Option (gM × (Nat × Nat × Nat) × Int64)} (hK11 : ∀ {ad ln : Nat → Nat} {cp k n : Nat} (_ : g_chg N ad0 ln0 ad ln cp) {A : gM} {x1 : Int64} {x3 : Int32}, K11 cp k n A x1 x3 = some (A', u, r) → gJ p l e (g_rmx 1514 u.2.1 u.2.2) s m args below meth c (gEAl below D g N ad0 ln0 A0 A' u r args s) 8 D g (va_A (gw g ad0 ln0 A0 N) s.heap.size) N ad ln A [(0, gr 183), (1, gl x1), (3, gi x3)] k n 11 []) (oK11 : ∀ {cp k n : Nat} {A : gM} {x1 : Int64} {x3 : Int32}, K11 cp k n A x1 x3 = some (A', u, r) → k ≤ u.2.1 ∧ n ≤ u.2.2) {cp k n : Nat} (hch : g_chg N ad0 ln0 ad ln cp) {A : gM} {x1 : Int64} {x3 : Int32} (h : mX6_digest_b11 N cp k n K11 A x1 x3 = some (A', u, r)) : gJ p l e (g_rmx 1514 u.2.1 u.2.2) s m args below meth c (gEAl below D g N ad0 ln0 A0 A' u r args s) 8 D g (va_A (gw g ad0 ln0 A0 N) s.heap.size) N ad ln A [(0, gr 183), (1, gl x1), (3, gi x3)] k n 11 [] := by
  have hkn := oX6_digest_b11 oK11 h
  unfold mX6_digest_b11 at h
  refine g_iload_n C 2 dX6_digest_11 rfl ?_
  refine g_bipush (v := 6) C dX6_digest_12 (by decide) ?_
  refine g_icmp_ge C dX6_digest_14 (tgt := 36) (by decide) (fun c1 => ?_) (fun c1 => ?_)
  · have h := g_tt c1 h
    refine g_iconst (v := 0) C dX6_digest_36 (by decide) ?_
    refine g_istore_n C dX6_digest_37 (by decide) rfl ?_
    refine g_sub [1, 2, 0] rfl ?_
    exact wX6_digest_L38 hN C hr gF hch h
  · have h := g_ff c1 h
    refine g_lload_n C 1 dX6_digest_17 rfl ?_
    refine g_ldc2 C qc_X6_210 dX6_digest_18 ?_
    refine g_lmul C dX6_digest_21 ?_
    refine g_aload_n C 0 dX6_digest_22 rfl ?_
    refine g_iload_n C 2 dX6_digest_23 rfl ?_
    obtain ⟨q2, eq2, h⟩ := g_bd h
    have mo := oX6_digest_b27 oK11 h
    refine g_callAiV C 183 [gi x3] (kX6_counted hN hch.2 eq2) qs_X6_195 (by omega) (by omega) rfl rfl rfl rfl (Nat.le_of_ble_eq_true rfl) ⟨mo.1, mo.2⟩ (And.intro ⟨by omega, by omega⟩ True.intro) True.intro dX6_digest_24 (fun ad1 ln1 hch1 => ?_)
    have hch := g_chg.trans (by omega) hch hch1
    refine g_sub [0, 2] rfl ?_
    exact wX6_digest_b27 hN C hr hK11 oK11 hch h

set_option maxHeartbeats 2000000 in
set_option maxRecDepth 20000 in
theorem oX6_digest_L11 {N : Nat} {A' : gM} {u : Nat × Nat × Nat} {r : Int64}  : ∀ (f : Nat) {cp k n : Nat} {A : gM} {x1 : Int64} {x3 : Int32}, mX6_digest_L11 N f cp k n A x1 x3 = some (A', u, r) → k ≤ u.2.1 ∧ n ≤ u.2.2
  | 0, _, _, _, A, x1, x3, h => by cases h
  | f + 1, cp, k, n, A, x1, x3, h => oX6_digest_b11 (K11 := mX6_digest_L11 N f) (fun h => oX6_digest_L11 f h) h
set_option maxHeartbeats 2000000 in
set_option maxRecDepth 20000 in
theorem wX6_digest_L11 (hN : 193 ≤ N)  {A0 A' : gM} {u : Nat × Nat × Nat} {r : Int64} (C : gC p (g_rmx 1514 u.2.1 u.2.2) s m args meth c cX6_digest RX6 8 D g (va_A (gw g ad0 ln0 A0 N) s.heap.size) 1514) (hr : meth.sig.returnType = some .long)  : ∀ (f : Nat) {ad ln : Nat → Nat} {cp k n : Nat} (_ : g_chg N ad0 ln0 ad ln cp) {A : gM} {x1 : Int64} {x3 : Int32}, mX6_digest_L11 N f cp k n A x1 x3 = some (A', u, r) → gJ p l e (g_rmx 1514 u.2.1 u.2.2) s m args below meth c (gEAl below D g N ad0 ln0 A0 A' u r args s) 8 D g (va_A (gw g ad0 ln0 A0 N) s.heap.size) N ad ln A [(0, gr 183), (1, gl x1), (3, gi x3)] k n 11 []
  | 0, ad, ln, cp, k, n, hch, A, x1, x3, h => by cases h
  | f + 1, ad, ln, cp, k, n, hch, A, x1, x3, h => wX6_digest_b11 (K11 := mX6_digest_L11 N f) hN C hr (fun {ad ln} {cp k n} hch {A} {x1} {x3} h => wX6_digest_L11 hN C hr f hch h) (fun h => oX6_digest_L11 f h) hch h
set_option maxHeartbeats 2000000 in
set_option maxRecDepth 20000 in
theorem oX6_digest_b0 {N : Nat} {A' : gM} {u : Nat × Nat × Nat} {r : Int64}  {cp k n : Nat} {A : gM} (h : mX6_digest_b0 N cp k n A = some (A', u, r)) : k ≤ u.2.1 ∧ n ≤ u.2.2 := by
  unfold mX6_digest_b0 at h
  obtain ⟨A1, eA1, h⟩ := g_lt h
  exact oX6_digest_L11 gF h

set_option maxHeartbeats 2000000 in
set_option maxRecDepth 20000 in
theorem wX6_digest_b0 (hN : 193 ≤ N)  {A0 A' : gM} {u : Nat × Nat × Nat} {r : Int64} (C : gC p (g_rmx 1514 u.2.1 u.2.2) s m args meth c cX6_digest RX6 8 D g (va_A (gw g ad0 ln0 A0 N) s.heap.size) 1514) (hr : meth.sig.returnType = some .long)  {cp k n : Nat} (hch : g_chg N ad0 ln0 ad ln cp) {A : gM} (h : mX6_digest_b0 N cp k n A = some (A', u, r)) : gJ p l e (g_rmx 1514 u.2.1 u.2.2) s m args below meth c (gEAl below D g N ad0 ln0 A0 A' u r args s) 8 D g (va_A (gw g ad0 ln0 A0 N) s.heap.size) N ad ln A [(0, gr 183)] k n 0 [] := by
  have hkn := oX6_digest_b0 h
  unfold mX6_digest_b0 at h
  refine g_aload_n C 0 dX6_digest_0 rfl ?_
  refine g_iconst (v := 0) C dX6_digest_1 (by decide) ?_
  obtain ⟨A1, eA1, h⟩ := g_lt h
  refine g_put C 183 0 tyX6 tyX6_ok nmX6 (by omega) rfl rfl gu_6 (by decide) qf_X6_35 rfl (by decide +kernel) (Nat.le_of_ble_eq_true rfl) rfl eA1 dX6_digest_2 ?_
  refine g_ldc2 C qc_X6_208 dX6_digest_5 ?_
  refine g_lstore_n C dX6_digest_8 (by decide) rfl ?_
  refine g_iconst (v := 0) C dX6_digest_9 (by decide) ?_
  refine g_istore_n C dX6_digest_10 (by decide) rfl ?_
  refine g_sub [2, 1, 0] rfl ?_
  exact wX6_digest_L11 hN C hr gF hch h

set_option maxHeartbeats 2000000 in
set_option maxRecDepth 20000 in
theorem kX6_digest {l : Launch} {D : va_G} {g : gT} {N : Nat} (hN : 193 ≤ N) {ad ln : Nat → Nat} {cp : Nat} (hcp : g_cap ln cp) {A A' : gM} {u : Nat × Nat × Nat} {r : Int64} (h : mX6_digest N cp A = some (A', u, r)) : gAl l yX6_digest cX6_digest 8 (some .long) (1514) D g N ad ln A [gr 183] A' u r := by
  refine g_metAl (by decide) (Nat.le_of_ble_eq_true rfl) ?_
  intro p e s m args below meth c C hr
  refine g_sub [0] rfl ?_
  exact wX6_digest_b0 hN C hr (g_chg.rf hcp) h
end M5
