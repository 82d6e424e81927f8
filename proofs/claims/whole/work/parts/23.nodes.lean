theorem qf_X6_29 : Cond.fieldLink RX6 29 (TX6 10).1 (TX6 10).2.1 (TX6 10).2.2.1 ∈ gtb := g_tb (List.mem_of_getElem? (i := 749) (by decide +kernel)) (by decide +kernel)
theorem qs_X6_132 : g_site RX6 RX6 132 yX6_used cX6_used 5 (some .int) 2 := ⟨g_tb (List.mem_of_getElem? (i := 900) (by decide +kernel)) (by decide +kernel), g_tb (List.mem_of_getElem? (i := 902) (by decide +kernel)) (by decide +kernel), g_tb (List.mem_of_getElem? (i := 48) (by decide +kernel)) (by decide +kernel), g_tb (List.mem_of_getElem? (i := 79) (by decide +kernel)) (by decide +kernel), g_tb (List.mem_of_getElem? (i := 903) (by decide +kernel)) (by decide +kernel), ⟨rfl, by decide, by decide, by decide +kernel⟩, by decide⟩
theorem qs_X6_135 : g_site RX6 RX6 135 yX6_variable cX6_variable 1 (some .int) 0 := ⟨g_tb (List.mem_of_getElem? (i := 916) (by decide +kernel)) (by decide +kernel), g_tb (List.mem_of_getElem? (i := 918) (by decide +kernel)) (by decide +kernel), g_tb (List.mem_of_getElem? (i := 52) (by decide +kernel)) (by decide +kernel), g_tb (List.mem_of_getElem? (i := 79) (by decide +kernel)) (by decide +kernel), g_tb (List.mem_of_getElem? (i := 919) (by decide +kernel)) (by decide +kernel), ⟨rfl, by decide, by decide, by decide +kernel⟩, by decide⟩
theorem qs_X6_50 : g_site RX6 RX6 50 yX6_size cX6_size 2 (some .int) 1 := ⟨g_tb (List.mem_of_getElem? (i := 798) (by decide +kernel)) (by decide +kernel), g_tb (List.mem_of_getElem? (i := 800) (by decide +kernel)) (by decide +kernel), g_tb (List.mem_of_getElem? (i := 35) (by decide +kernel)) (by decide +kernel), g_tb (List.mem_of_getElem? (i := 79) (by decide +kernel)) (by decide +kernel), g_tb (List.mem_of_getElem? (i := 801) (by decide +kernel)) (by decide +kernel), ⟨rfl, by decide, by decide, by decide +kernel⟩, by decide⟩
theorem qs_X6_63 : g_site RX6 RX6 63 yX6_put cX6_put 7 (none) 5 := ⟨g_tb (List.mem_of_getElem? (i := 810) (by decide +kernel)) (by decide +kernel), g_tb (List.mem_of_getElem? (i := 812) (by decide +kernel)) (by decide +kernel), g_tb (List.mem_of_getElem? (i := 38) (by decide +kernel)) (by decide +kernel), g_tb (List.mem_of_getElem? (i := 79) (by decide +kernel)) (by decide +kernel), g_tb (List.mem_of_getElem? (i := 813) (by decide +kernel)) (by decide +kernel), ⟨rfl, by decide, by decide, by decide +kernel⟩, by decide⟩
theorem qs_X6_67 : g_site RX6 RX6 67 yX6_made cX6_made 7 (some .int) 6 := ⟨g_tb (List.mem_of_getElem? (i := 794) (by decide +kernel)) (by decide +kernel), g_tb (List.mem_of_getElem? (i := 796) (by decide +kernel)) (by decide +kernel), g_tb (List.mem_of_getElem? (i := 34) (by decide +kernel)) (by decide +kernel), g_tb (List.mem_of_getElem? (i := 79) (by decide +kernel)) (by decide +kernel), g_tb (List.mem_of_getElem? (i := 797) (by decide +kernel)) (by decide +kernel), ⟨rfl, by decide, by decide, by decide +kernel⟩, by decide⟩
theorem qs_X6_85 : g_site RX6 RX6 85 yX6_node cX6_node 5 (some .int) 3 := ⟨g_tb (List.mem_of_getElem? (i := 889) (by decide +kernel)) (by decide +kernel), g_tb (List.mem_of_getElem? (i := 891) (by decide +kernel)) (by decide +kernel), g_tb (List.mem_of_getElem? (i := 46) (by decide +kernel)) (by decide +kernel), g_tb (List.mem_of_getElem? (i := 79) (by decide +kernel)) (by decide +kernel), g_tb (List.mem_of_getElem? (i := 892) (by decide +kernel)) (by decide +kernel), ⟨rfl, by decide, by decide, by decide +kernel⟩, by decide⟩
theorem qs_X6_71 : g_siteS RX6 71 yX6_isName cX6_isName 1 (some .boolean) 1 := ⟨g_tb (List.mem_of_getElem? (i := 821) (by decide +kernel)) (by decide +kernel), g_tb (List.mem_of_getElem? (i := 822) (by decide +kernel)) (by decide +kernel), g_tb (List.mem_of_getElem? (i := 79) (by decide +kernel)) (by decide +kernel), g_tb (List.mem_of_getElem? (i := 823) (by decide +kernel)) (by decide +kernel), ⟨rfl, by decide, by decide, by decide +kernel⟩, by decide⟩
theorem dX6_node_0 : decode cX6_node 0 = .ok (.aload_n 0, 1) := by decide +kernel
theorem dX6_node_1 : decode cX6_node 1 = .ok (.getfield 78, 3) := by decide +kernel
theorem dX6_node_4 : decode cX6_node 4 = .ok (.aload_n 0, 1) := by decide +kernel
theorem dX6_node_5 : decode cX6_node 5 = .ok (.getfield 13, 3) := by decide +kernel
theorem dX6_node_8 : decode cX6_node 8 = .ok (.arraylength, 1) := by decide +kernel
theorem dX6_node_9 : decode cX6_node 9 = .ok (.if_icmp .ne 78, 3) := by decide +kernel
theorem dX6_node_87 : decode cX6_node 87 = .ok (.aload_n 0, 1) := by decide +kernel
theorem dX6_node_88 : decode cX6_node 88 = .ok (.getfield 13, 3) := by decide +kernel
theorem dX6_node_91 : decode cX6_node 91 = .ok (.aload_n 0, 1) := by decide +kernel
theorem dX6_node_92 : decode cX6_node 92 = .ok (.getfield 78, 3) := by decide +kernel
theorem dX6_node_95 : decode cX6_node 95 = .ok (.iload_n 1, 1) := by decide +kernel
theorem dX6_node_96 : decode cX6_node 96 = .ok (.iastore, 1) := by decide +kernel
theorem dX6_node_97 : decode cX6_node 97 = .ok (.aload_n 0, 1) := by decide +kernel
theorem dX6_node_98 : decode cX6_node 98 = .ok (.getfield 16, 3) := by decide +kernel
theorem dX6_node_101 : decode cX6_node 101 = .ok (.aload_n 0, 1) := by decide +kernel
theorem dX6_node_102 : decode cX6_node 102 = .ok (.getfield 78, 3) := by decide +kernel
theorem dX6_node_105 : decode cX6_node 105 = .ok (.iload_n 2, 1) := by decide +kernel
theorem dX6_node_106 : decode cX6_node 106 = .ok (.iastore, 1) := by decide +kernel
theorem dX6_node_107 : decode cX6_node 107 = .ok (.aload_n 0, 1) := by decide +kernel
theorem dX6_node_108 : decode cX6_node 108 = .ok (.getfield 19, 3) := by decide +kernel
theorem dX6_node_111 : decode cX6_node 111 = .ok (.aload_n 0, 1) := by decide +kernel
theorem dX6_node_112 : decode cX6_node 112 = .ok (.getfield 78, 3) := by decide +kernel
theorem dX6_node_115 : decode cX6_node 115 = .ok (.iload_n 3, 1) := by decide +kernel
theorem dX6_node_116 : decode cX6_node 116 = .ok (.iastore, 1) := by decide +kernel
theorem dX6_node_117 : decode cX6_node 117 = .ok (.aload_n 0, 1) := by decide +kernel
theorem dX6_node_118 : decode cX6_node 118 = .ok (.getfield 22, 3) := by decide +kernel
theorem dX6_node_121 : decode cX6_node 121 = .ok (.aload_n 0, 1) := by decide +kernel
theorem dX6_node_122 : decode cX6_node 122 = .ok (.getfield 78, 3) := by decide +kernel
theorem dX6_node_125 : decode cX6_node 125 = .ok (.iconst 0, 1) := by decide +kernel
theorem dX6_node_126 : decode cX6_node 126 = .ok (.bastore, 1) := by decide +kernel
theorem dX6_node_127 : decode cX6_node 127 = .ok (.aload_n 0, 1) := by decide +kernel
theorem dX6_node_128 : decode cX6_node 128 = .ok (.getfield 26, 3) := by decide +kernel
theorem dX6_node_131 : decode cX6_node 131 = .ok (.aload_n 0, 1) := by decide +kernel
theorem dX6_node_132 : decode cX6_node 132 = .ok (.getfield 78, 3) := by decide +kernel
theorem dX6_node_135 : decode cX6_node 135 = .ok (.iconst (-1), 1) := by decide +kernel
theorem dX6_node_136 : decode cX6_node 136 = .ok (.iastore, 1) := by decide +kernel
theorem dX6_node_137 : decode cX6_node 137 = .ok (.aload_n 0, 1) := by decide +kernel
theorem dX6_node_138 : decode cX6_node 138 = .ok (.dup, 1) := by decide +kernel
theorem dX6_node_139 : decode cX6_node 139 = .ok (.getfield 78, 3) := by decide +kernel
theorem dX6_node_142 : decode cX6_node 142 = .ok (.iconst 1, 1) := by decide +kernel
theorem dX6_node_143 : decode cX6_node 143 = .ok (.iadd, 1) := by decide +kernel
theorem dX6_node_144 : decode cX6_node 144 = .ok (.putfield 78, 3) := by decide +kernel
theorem dX6_node_147 : decode cX6_node 147 = .ok (.aload_n 0, 1) := by decide +kernel
theorem dX6_node_148 : decode cX6_node 148 = .ok (.getfield 78, 3) := by decide +kernel
theorem dX6_node_151 : decode cX6_node 151 = .ok (.iconst 1, 1) := by decide +kernel
theorem dX6_node_152 : decode cX6_node 152 = .ok (.isub, 1) := by decide +kernel
theorem dX6_node_153 : decode cX6_node 153 = .ok (.ireturn, 1) := by decide +kernel
theorem dX6_variable_0 : decode cX6_variable 0 = .ok (.aload_n 0, 1) := by decide +kernel
theorem dX6_variable_1 : decode cX6_variable 1 = .ok (.iconst 4, 1) := by decide +kernel
theorem dX6_variable_2 : decode cX6_variable 2 = .ok (.iconst (-1), 1) := by decide +kernel
theorem dX6_variable_3 : decode cX6_variable 3 = .ok (.iconst (-1), 1) := by decide +kernel
theorem dX6_variable_4 : decode cX6_variable 4 = .ok (.invokevirtual 85, 3) := by decide +kernel
theorem dX6_variable_7 : decode cX6_variable 7 = .ok (.ireturn, 1) := by decide +kernel
theorem dX6_put_0 : decode cX6_put 0 = .ok (.bipush 6, 2) := by decide +kernel
theorem dX6_put_2 : decode cX6_put 2 = .ok (.newarray .int, 2) := by decide +kernel
theorem dX6_put_4 : decode cX6_put 4 = .ok (.dup, 1) := by decide +kernel
theorem dX6_put_5 : decode cX6_put 5 = .ok (.iconst 0, 1) := by decide +kernel
theorem dX6_put_6 : decode cX6_put 6 = .ok (.iload_n 1, 1) := by decide +kernel
theorem dX6_put_7 : decode cX6_put 7 = .ok (.iastore, 1) := by decide +kernel
theorem dX6_put_8 : decode cX6_put 8 = .ok (.dup, 1) := by decide +kernel
theorem dX6_put_9 : decode cX6_put 9 = .ok (.iconst 1, 1) := by decide +kernel
theorem dX6_put_10 : decode cX6_put 10 = .ok (.iload_n 2, 1) := by decide +kernel
theorem dX6_put_11 : decode cX6_put 11 = .ok (.iastore, 1) := by decide +kernel
theorem dX6_put_12 : decode cX6_put 12 = .ok (.dup, 1) := by decide +kernel
theorem dX6_put_13 : decode cX6_put 13 = .ok (.iconst 2, 1) := by decide +kernel
theorem dX6_put_14 : decode cX6_put 14 = .ok (.iload_n 3, 1) := by decide +kernel
theorem dX6_put_15 : decode cX6_put 15 = .ok (.iastore, 1) := by decide +kernel
theorem dX6_put_16 : decode cX6_put 16 = .ok (.dup, 1) := by decide +kernel
theorem dX6_put_17 : decode cX6_put 17 = .ok (.iconst 3, 1) := by decide +kernel
theorem dX6_put_18 : decode cX6_put 18 = .ok (.iload 4, 2) := by decide +kernel
theorem dX6_put_20 : decode cX6_put 20 = .ok (.iastore, 1) := by decide +kernel
theorem dX6_put_21 : decode cX6_put 21 = .ok (.dup, 1) := by decide +kernel
theorem dX6_put_22 : decode cX6_put 22 = .ok (.iconst 4, 1) := by decide +kernel
theorem dX6_put_23 : decode cX6_put 23 = .ok (.iload 5, 2) := by decide +kernel
theorem dX6_put_25 : decode cX6_put 25 = .ok (.iastore, 1) := by decide +kernel
theorem dX6_put_26 : decode cX6_put 26 = .ok (.dup, 1) := by decide +kernel
theorem dX6_put_27 : decode cX6_put 27 = .ok (.iconst 5, 1) := by decide +kernel
theorem dX6_put_28 : decode cX6_put 28 = .ok (.iconst 1, 1) := by decide +kernel
theorem dX6_put_29 : decode cX6_put 29 = .ok (.aload_n 0, 1) := by decide +kernel
theorem dX6_put_30 : decode cX6_put 30 = .ok (.iload_n 2, 1) := by decide +kernel
theorem dX6_put_31 : decode cX6_put 31 = .ok (.invokevirtual 50, 3) := by decide +kernel
theorem dX6_put_34 : decode cX6_put 34 = .ok (.iadd, 1) := by decide +kernel
theorem dX6_put_35 : decode cX6_put 35 = .ok (.aload_n 0, 1) := by decide +kernel
theorem dX6_put_36 : decode cX6_put 36 = .ok (.iload_n 3, 1) := by decide +kernel
theorem dX6_put_37 : decode cX6_put 37 = .ok (.invokevirtual 50, 3) := by decide +kernel
theorem dX6_put_40 : decode cX6_put 40 = .ok (.iadd, 1) := by decide +kernel
theorem dX6_put_41 : decode cX6_put 41 = .ok (.aload_n 0, 1) := by decide +kernel
theorem dX6_put_42 : decode cX6_put 42 = .ok (.iload 4, 2) := by decide +kernel
theorem dX6_put_44 : decode cX6_put 44 = .ok (.invokevirtual 50, 3) := by decide +kernel
theorem dX6_put_47 : decode cX6_put 47 = .ok (.iadd, 1) := by decide +kernel
theorem dX6_put_48 : decode cX6_put 48 = .ok (.iastore, 1) := by decide +kernel
theorem dX6_put_49 : decode cX6_put 49 = .ok (.astore 6, 2) := by decide +kernel
theorem dX6_put_51 : decode cX6_put 51 = .ok (.aload 6, 2) := by decide +kernel
theorem dX6_put_53 : decode cX6_put 53 = .ok (.iconst 0, 1) := by decide +kernel
theorem dX6_put_54 : decode cX6_put 54 = .ok (.aload_n 0, 1) := by decide +kernel
theorem dX6_put_55 : decode cX6_put 55 = .ok (.getfield 9, 3) := by decide +kernel
theorem dX6_put_58 : decode cX6_put 58 = .ok (.bipush 6, 2) := by decide +kernel
theorem dX6_put_60 : decode cX6_put 60 = .ok (.aload_n 0, 1) := by decide +kernel
theorem dX6_put_61 : decode cX6_put 61 = .ok (.getfield 39, 3) := by decide +kernel
theorem dX6_put_64 : decode cX6_put 64 = .ok (.imul, 1) := by decide +kernel
theorem dX6_put_65 : decode cX6_put 65 = .ok (.bipush 6, 2) := by decide +kernel
theorem dX6_put_67 : decode cX6_put 67 = .ok (.invokestatic 54, 3) := by decide +kernel
theorem dX6_put_70 : decode cX6_put 70 = .ok (.return_, 1) := by decide +kernel
theorem dX6_made_0 : decode cX6_made 0 = .ok (.aload_n 0, 1) := by decide +kernel
theorem dX6_made_1 : decode cX6_made 1 = .ok (.getfield 39, 3) := by decide +kernel
theorem dX6_made_4 : decode cX6_made 4 = .ok (.bipush 40, 2) := by decide +kernel
theorem dX6_made_6 : decode cX6_made 6 = .ok (.if_icmp .eq 28, 3) := by decide +kernel
theorem dX6_made_9 : decode cX6_made 9 = .ok (.iconst 1, 1) := by decide +kernel
theorem dX6_made_10 : decode cX6_made 10 = .ok (.aload_n 0, 1) := by decide +kernel
theorem dX6_made_11 : decode cX6_made 11 = .ok (.iload_n 2, 1) := by decide +kernel
theorem dX6_made_12 : decode cX6_made 12 = .ok (.invokevirtual 50, 3) := by decide +kernel
theorem dX6_made_15 : decode cX6_made 15 = .ok (.iadd, 1) := by decide +kernel
theorem dX6_made_16 : decode cX6_made 16 = .ok (.aload_n 0, 1) := by decide +kernel
theorem dX6_made_17 : decode cX6_made 17 = .ok (.iload_n 3, 1) := by decide +kernel
theorem dX6_made_18 : decode cX6_made 18 = .ok (.invokevirtual 50, 3) := by decide +kernel
theorem dX6_made_21 : decode cX6_made 21 = .ok (.iadd, 1) := by decide +kernel
theorem dX6_made_22 : decode cX6_made 22 = .ok (.aload_n 0, 1) := by decide +kernel
theorem dX6_made_23 : decode cX6_made 23 = .ok (.iload 4, 2) := by decide +kernel
theorem dX6_made_25 : decode cX6_made 25 = .ok (.invokevirtual 50, 3) := by decide +kernel
theorem dX6_made_28 : decode cX6_made 28 = .ok (.iadd, 1) := by decide +kernel
theorem dX6_made_29 : decode cX6_made 29 = .ok (.bipush 60, 2) := by decide +kernel
theorem dX6_made_31 : decode cX6_made 31 = .ok (.if_icmp .le 10, 3) := by decide +kernel
theorem dX6_made_34 : decode cX6_made 34 = .ok (.aload_n 0, 1) := by decide +kernel
theorem dX6_made_35 : decode cX6_made 35 = .ok (.iload 6, 2) := by decide +kernel
theorem dX6_made_37 : decode cX6_made 37 = .ok (.invokevirtual 60, 3) := by decide +kernel
theorem dX6_made_40 : decode cX6_made 40 = .ok (.ireturn, 1) := by decide +kernel
theorem dX6_made_41 : decode cX6_made 41 = .ok (.aload_n 0, 1) := by decide +kernel
theorem dX6_made_42 : decode cX6_made 42 = .ok (.iload_n 1, 1) := by decide +kernel
theorem dX6_made_43 : decode cX6_made 43 = .ok (.iload_n 2, 1) := by decide +kernel
theorem dX6_made_44 : decode cX6_made 44 = .ok (.iload_n 3, 1) := by decide +kernel
theorem dX6_made_45 : decode cX6_made 45 = .ok (.iload 4, 2) := by decide +kernel
theorem dX6_made_47 : decode cX6_made 47 = .ok (.iload 5, 2) := by decide +kernel
theorem dX6_made_49 : decode cX6_made 49 = .ok (.invokevirtual 63, 3) := by decide +kernel
theorem dX6_made_52 : decode cX6_made 52 = .ok (.aload_n 0, 1) := by decide +kernel
theorem dX6_made_53 : decode cX6_made 53 = .ok (.dup, 1) := by decide +kernel
theorem dX6_made_54 : decode cX6_made 54 = .ok (.getfield 39, 3) := by decide +kernel
theorem dX6_made_57 : decode cX6_made 57 = .ok (.iconst 1, 1) := by decide +kernel
theorem dX6_made_58 : decode cX6_made 58 = .ok (.iadd, 1) := by decide +kernel
theorem dX6_made_59 : decode cX6_made 59 = .ok (.putfield 39, 3) := by decide +kernel
theorem dX6_made_62 : decode cX6_made 62 = .ok (.aload_n 0, 1) := by decide +kernel
theorem dX6_made_63 : decode cX6_made 63 = .ok (.getfield 39, 3) := by decide +kernel
theorem dX6_made_66 : decode cX6_made 66 = .ok (.iconst 1, 1) := by decide +kernel
theorem dX6_made_67 : decode cX6_made 67 = .ok (.isub, 1) := by decide +kernel
theorem dX6_made_68 : decode cX6_made 68 = .ok (.ireturn, 1) := by decide +kernel
theorem dX6_plain_0 : decode cX6_plain 0 = .ok (.aload_n 0, 1) := by decide +kernel
theorem dX6_plain_1 : decode cX6_plain 1 = .ok (.iconst 0, 1) := by decide +kernel
theorem dX6_plain_2 : decode cX6_plain 2 = .ok (.putfield 35, 3) := by decide +kernel
theorem dX6_plain_5 : decode cX6_plain 5 = .ok (.iload_n 1, 1) := by decide +kernel
theorem dX6_plain_6 : decode cX6_plain 6 = .ok (.iconst 0, 1) := by decide +kernel
theorem dX6_plain_7 : decode cX6_plain 7 = .ok (.iconst 1, 1) := by decide +kernel
theorem dX6_plain_8 : decode cX6_plain 8 = .ok (.invokestatic 42, 3) := by decide +kernel
theorem dX6_plain_11 : decode cX6_plain 11 = .ok (.ifCond .eq 16, 3) := by decide +kernel
theorem dX6_plain_14 : decode cX6_plain 14 = .ok (.aload_n 0, 1) := by decide +kernel
theorem dX6_plain_15 : decode cX6_plain 15 = .ok (.iload_n 1, 1) := by decide +kernel
theorem dX6_plain_16 : decode cX6_plain 16 = .ok (.iconst (-1), 1) := by decide +kernel
theorem dX6_plain_17 : decode cX6_plain 17 = .ok (.iconst (-1), 1) := by decide +kernel
theorem dX6_plain_18 : decode cX6_plain 18 = .ok (.iconst (-1), 1) := by decide +kernel
theorem dX6_plain_19 : decode cX6_plain 19 = .ok (.iconst (-1), 1) := by decide +kernel
theorem dX6_plain_20 : decode cX6_plain 20 = .ok (.iconst 2, 1) := by decide +kernel
theorem dX6_plain_21 : decode cX6_plain 21 = .ok (.invokevirtual 67, 3) := by decide +kernel
theorem dX6_plain_24 : decode cX6_plain 24 = .ok (.goto 8, 3) := by decide +kernel
theorem dX6_plain_27 : decode cX6_plain 27 = .ok (.aload_n 0, 1) := by decide +kernel
theorem dX6_plain_28 : decode cX6_plain 28 = .ok (.iconst 1, 1) := by decide +kernel
theorem dX6_plain_29 : decode cX6_plain 29 = .ok (.invokevirtual 60, 3) := by decide +kernel
theorem dX6_plain_32 : decode cX6_plain 32 = .ok (.ireturn, 1) := by decide +kernel
theorem dX6_name_0 : decode cX6_name 0 = .ok (.aload_n 0, 1) := by decide +kernel
theorem dX6_name_1 : decode cX6_name 1 = .ok (.iconst 0, 1) := by decide +kernel
theorem dX6_name_2 : decode cX6_name 2 = .ok (.putfield 35, 3) := by decide +kernel
theorem dX6_name_5 : decode cX6_name 5 = .ok (.iload_n 1, 1) := by decide +kernel
theorem dX6_name_6 : decode cX6_name 6 = .ok (.invokestatic 71, 3) := by decide +kernel
theorem dX6_name_9 : decode cX6_name 9 = .ok (.ifCond .eq 16, 3) := by decide +kernel
theorem dX6_name_12 : decode cX6_name 12 = .ok (.aload_n 0, 1) := by decide +kernel
theorem dX6_name_13 : decode cX6_name 13 = .ok (.iconst 2, 1) := by decide +kernel
theorem dX6_name_14 : decode cX6_name 14 = .ok (.iconst (-1), 1) := by decide +kernel
theorem dX6_name_15 : decode cX6_name 15 = .ok (.iconst (-1), 1) := by decide +kernel
theorem dX6_name_16 : decode cX6_name 16 = .ok (.iconst (-1), 1) := by decide +kernel
theorem dX6_name_17 : decode cX6_name 17 = .ok (.iload_n 1, 1) := by decide +kernel
theorem dX6_name_18 : decode cX6_name 18 = .ok (.iconst 2, 1) := by decide +kernel
theorem dX6_name_19 : decode cX6_name 19 = .ok (.invokevirtual 67, 3) := by decide +kernel
theorem dX6_name_22 : decode cX6_name 22 = .ok (.goto 8, 3) := by decide +kernel
theorem dX6_name_25 : decode cX6_name 25 = .ok (.aload_n 0, 1) := by decide +kernel
theorem dX6_name_26 : decode cX6_name 26 = .ok (.iconst 1, 1) := by decide +kernel
theorem dX6_name_27 : decode cX6_name 27 = .ok (.invokevirtual 60, 3) := by decide +kernel
theorem dX6_name_30 : decode cX6_name 30 = .ok (.ireturn, 1) := by decide +kernel
theorem dX6_wheel_0 : decode cX6_wheel 0 = .ok (.aload_n 0, 1) := by decide +kernel
theorem dX6_wheel_1 : decode cX6_wheel 1 = .ok (.iconst 0, 1) := by decide +kernel
theorem dX6_wheel_2 : decode cX6_wheel 2 = .ok (.putfield 35, 3) := by decide +kernel
theorem dX6_wheel_5 : decode cX6_wheel 5 = .ok (.aload_n 0, 1) := by decide +kernel
theorem dX6_wheel_6 : decode cX6_wheel 6 = .ok (.iload_n 2, 1) := by decide +kernel
theorem dX6_wheel_7 : decode cX6_wheel 7 = .ok (.invokevirtual 75, 3) := by decide +kernel
theorem dX6_wheel_10 : decode cX6_wheel 10 = .ok (.ifCond .ne 9, 3) := by decide +kernel
theorem dX6_wheel_13 : decode cX6_wheel 13 = .ok (.aload_n 0, 1) := by decide +kernel
theorem dX6_wheel_14 : decode cX6_wheel 14 = .ok (.iconst 1, 1) := by decide +kernel
theorem dX6_wheel_15 : decode cX6_wheel 15 = .ok (.invokevirtual 60, 3) := by decide +kernel
theorem dX6_wheel_18 : decode cX6_wheel 18 = .ok (.ireturn, 1) := by decide +kernel
theorem dX6_wheel_19 : decode cX6_wheel 19 = .ok (.iload_n 1, 1) := by decide +kernel
theorem dX6_wheel_20 : decode cX6_wheel 20 = .ok (.invokestatic 71, 3) := by decide +kernel
theorem dX6_wheel_23 : decode cX6_wheel 23 = .ok (.ifCond .eq 16, 3) := by decide +kernel
theorem dX6_wheel_26 : decode cX6_wheel 26 = .ok (.aload_n 0, 1) := by decide +kernel
theorem dX6_wheel_27 : decode cX6_wheel 27 = .ok (.iconst 3, 1) := by decide +kernel
theorem dX6_wheel_28 : decode cX6_wheel 28 = .ok (.iload_n 2, 1) := by decide +kernel
theorem dX6_wheel_29 : decode cX6_wheel 29 = .ok (.iconst (-1), 1) := by decide +kernel
theorem dX6_wheel_30 : decode cX6_wheel 30 = .ok (.iconst (-1), 1) := by decide +kernel
theorem dX6_wheel_31 : decode cX6_wheel 31 = .ok (.iload_n 1, 1) := by decide +kernel
theorem dX6_wheel_32 : decode cX6_wheel 32 = .ok (.iconst 3, 1) := by decide +kernel
theorem dX6_wheel_33 : decode cX6_wheel 33 = .ok (.invokevirtual 67, 3) := by decide +kernel
theorem dX6_wheel_36 : decode cX6_wheel 36 = .ok (.goto 8, 3) := by decide +kernel
theorem dX6_wheel_39 : decode cX6_wheel 39 = .ok (.aload_n 0, 1) := by decide +kernel
theorem dX6_wheel_40 : decode cX6_wheel 40 = .ok (.iconst 2, 1) := by decide +kernel
theorem dX6_wheel_41 : decode cX6_wheel 41 = .ok (.invokevirtual 60, 3) := by decide +kernel
theorem dX6_wheel_44 : decode cX6_wheel 44 = .ok (.ireturn, 1) := by decide +kernel
theorem dX6_turn_0 : decode cX6_turn 0 = .ok (.aload_n 0, 1) := by decide +kernel
theorem dX6_turn_1 : decode cX6_turn 1 = .ok (.iconst 0, 1) := by decide +kernel
theorem dX6_turn_2 : decode cX6_turn 2 = .ok (.putfield 35, 3) := by decide +kernel
theorem dX6_turn_5 : decode cX6_turn 5 = .ok (.aload_n 0, 1) := by decide +kernel
theorem dX6_turn_6 : decode cX6_turn 6 = .ok (.iload_n 1, 1) := by decide +kernel
theorem dX6_turn_7 : decode cX6_turn 7 = .ok (.invokevirtual 75, 3) := by decide +kernel
theorem dX6_turn_10 : decode cX6_turn 10 = .ok (.ifCond .eq 24, 3) := by decide +kernel
theorem dX6_turn_13 : decode cX6_turn 13 = .ok (.aload_n 0, 1) := by decide +kernel
theorem dX6_turn_14 : decode cX6_turn 14 = .ok (.iload_n 2, 1) := by decide +kernel
theorem dX6_turn_15 : decode cX6_turn 15 = .ok (.invokevirtual 75, 3) := by decide +kernel
theorem dX6_turn_18 : decode cX6_turn 18 = .ok (.ifCond .eq 16, 3) := by decide +kernel
theorem dX6_turn_21 : decode cX6_turn 21 = .ok (.aload_n 0, 1) := by decide +kernel
theorem dX6_turn_22 : decode cX6_turn 22 = .ok (.iconst 4, 1) := by decide +kernel
theorem dX6_turn_23 : decode cX6_turn 23 = .ok (.iload_n 1, 1) := by decide +kernel
theorem dX6_turn_24 : decode cX6_turn 24 = .ok (.iload_n 2, 1) := by decide +kernel
theorem dX6_turn_25 : decode cX6_turn 25 = .ok (.iconst (-1), 1) := by decide +kernel
theorem dX6_turn_26 : decode cX6_turn 26 = .ok (.iconst (-1), 1) := by decide +kernel
theorem dX6_turn_27 : decode cX6_turn 27 = .ok (.iconst 2, 1) := by decide +kernel
theorem dX6_turn_28 : decode cX6_turn 28 = .ok (.invokevirtual 67, 3) := by decide +kernel
theorem dX6_turn_31 : decode cX6_turn 31 = .ok (.goto 8, 3) := by decide +kernel
theorem dX6_turn_34 : decode cX6_turn 34 = .ok (.aload_n 0, 1) := by decide +kernel
theorem dX6_turn_35 : decode cX6_turn 35 = .ok (.iconst 1, 1) := by decide +kernel
theorem dX6_turn_36 : decode cX6_turn 36 = .ok (.invokevirtual 60, 3) := by decide +kernel
theorem dX6_turn_39 : decode cX6_turn 39 = .ok (.ireturn, 1) := by decide +kernel
theorem dX6_tell_0 : decode cX6_tell 0 = .ok (.aload_n 0, 1) := by decide +kernel
theorem dX6_tell_1 : decode cX6_tell 1 = .ok (.iconst 0, 1) := by decide +kernel
theorem dX6_tell_2 : decode cX6_tell 2 = .ok (.putfield 35, 3) := by decide +kernel
theorem dX6_tell_5 : decode cX6_tell 5 = .ok (.aload_n 0, 1) := by decide +kernel
theorem dX6_tell_6 : decode cX6_tell 6 = .ok (.iload_n 2, 1) := by decide +kernel
theorem dX6_tell_7 : decode cX6_tell 7 = .ok (.invokevirtual 75, 3) := by decide +kernel
theorem dX6_tell_10 : decode cX6_tell 10 = .ok (.ifCond .eq 11, 3) := by decide +kernel
theorem dX6_tell_13 : decode cX6_tell 13 = .ok (.aload_n 0, 1) := by decide +kernel
theorem dX6_tell_14 : decode cX6_tell 14 = .ok (.iload_n 3, 1) := by decide +kernel
theorem dX6_tell_15 : decode cX6_tell 15 = .ok (.invokevirtual 75, 3) := by decide +kernel
theorem dX6_tell_18 : decode cX6_tell 18 = .ok (.ifCond .ne 9, 3) := by decide +kernel
theorem dX6_tell_21 : decode cX6_tell 21 = .ok (.aload_n 0, 1) := by decide +kernel
theorem dX6_tell_22 : decode cX6_tell 22 = .ok (.iconst 1, 1) := by decide +kernel
theorem dX6_tell_23 : decode cX6_tell 23 = .ok (.invokevirtual 60, 3) := by decide +kernel
theorem dX6_tell_26 : decode cX6_tell 26 = .ok (.ireturn, 1) := by decide +kernel
theorem dX6_tell_27 : decode cX6_tell 27 = .ok (.iload_n 1, 1) := by decide +kernel
theorem dX6_tell_28 : decode cX6_tell 28 = .ok (.invokestatic 71, 3) := by decide +kernel
theorem dX6_tell_31 : decode cX6_tell 31 = .ok (.ifCond .eq 16, 3) := by decide +kernel
theorem dX6_tell_34 : decode cX6_tell 34 = .ok (.aload_n 0, 1) := by decide +kernel
theorem dX6_tell_35 : decode cX6_tell 35 = .ok (.iconst 5, 1) := by decide +kernel
theorem dX6_tell_36 : decode cX6_tell 36 = .ok (.iload_n 2, 1) := by decide +kernel
theorem dX6_tell_37 : decode cX6_tell 37 = .ok (.iload_n 3, 1) := by decide +kernel
theorem dX6_tell_38 : decode cX6_tell 38 = .ok (.iconst (-1), 1) := by decide +kernel
theorem dX6_tell_39 : decode cX6_tell 39 = .ok (.iload_n 1, 1) := by decide +kernel
theorem dX6_tell_40 : decode cX6_tell 40 = .ok (.iconst 3, 1) := by decide +kernel
theorem dX6_tell_41 : decode cX6_tell 41 = .ok (.invokevirtual 67, 3) := by decide +kernel
theorem dX6_tell_44 : decode cX6_tell 44 = .ok (.goto 8, 3) := by decide +kernel
theorem dX6_tell_47 : decode cX6_tell 47 = .ok (.aload_n 0, 1) := by decide +kernel
theorem dX6_tell_48 : decode cX6_tell 48 = .ok (.iconst 2, 1) := by decide +kernel
theorem dX6_tell_49 : decode cX6_tell 49 = .ok (.invokevirtual 60, 3) := by decide +kernel
theorem dX6_tell_52 : decode cX6_tell 52 = .ok (.ireturn, 1) := by decide +kernel
theorem dX6_axle_0 : decode cX6_axle 0 = .ok (.aload_n 0, 1) := by decide +kernel
theorem dX6_axle_1 : decode cX6_axle 1 = .ok (.iconst 0, 1) := by decide +kernel
theorem dX6_axle_2 : decode cX6_axle 2 = .ok (.putfield 35, 3) := by decide +kernel
theorem dX6_axle_5 : decode cX6_axle 5 = .ok (.aload_n 0, 1) := by decide +kernel
theorem dX6_axle_6 : decode cX6_axle 6 = .ok (.iload_n 1, 1) := by decide +kernel
theorem dX6_axle_7 : decode cX6_axle 7 = .ok (.invokevirtual 75, 3) := by decide +kernel
theorem dX6_axle_10 : decode cX6_axle 10 = .ok (.ifCond .eq 25, 3) := by decide +kernel
theorem dX6_axle_13 : decode cX6_axle 13 = .ok (.aload_n 0, 1) := by decide +kernel
theorem dX6_axle_14 : decode cX6_axle 14 = .ok (.iload_n 2, 1) := by decide +kernel
theorem dX6_axle_15 : decode cX6_axle 15 = .ok (.invokevirtual 75, 3) := by decide +kernel
theorem dX6_axle_18 : decode cX6_axle 18 = .ok (.ifCond .eq 17, 3) := by decide +kernel
theorem dX6_axle_21 : decode cX6_axle 21 = .ok (.aload_n 0, 1) := by decide +kernel
theorem dX6_axle_22 : decode cX6_axle 22 = .ok (.bipush 6, 2) := by decide +kernel
theorem dX6_axle_24 : decode cX6_axle 24 = .ok (.iload_n 1, 1) := by decide +kernel
theorem dX6_axle_25 : decode cX6_axle 25 = .ok (.iload_n 2, 1) := by decide +kernel
theorem dX6_axle_26 : decode cX6_axle 26 = .ok (.iconst (-1), 1) := by decide +kernel
theorem dX6_axle_27 : decode cX6_axle 27 = .ok (.iconst (-1), 1) := by decide +kernel
theorem dX6_axle_28 : decode cX6_axle 28 = .ok (.iconst 2, 1) := by decide +kernel
theorem dX6_axle_29 : decode cX6_axle 29 = .ok (.invokevirtual 67, 3) := by decide +kernel
theorem dX6_axle_32 : decode cX6_axle 32 = .ok (.goto 8, 3) := by decide +kernel
theorem dX6_axle_35 : decode cX6_axle 35 = .ok (.aload_n 0, 1) := by decide +kernel
theorem dX6_axle_36 : decode cX6_axle 36 = .ok (.iconst 1, 1) := by decide +kernel
theorem dX6_axle_37 : decode cX6_axle 37 = .ok (.invokevirtual 60, 3) := by decide +kernel
theorem dX6_axle_40 : decode cX6_axle 40 = .ok (.ireturn, 1) := by decide +kernel
theorem dX6_end_0 : decode cX6_end 0 = .ok (.aload_n 0, 1) := by decide +kernel
theorem dX6_end_1 : decode cX6_end 1 = .ok (.iconst 0, 1) := by decide +kernel
theorem dX6_end_2 : decode cX6_end 2 = .ok (.putfield 35, 3) := by decide +kernel
theorem dX6_end_5 : decode cX6_end 5 = .ok (.aload_n 0, 1) := by decide +kernel
theorem dX6_end_6 : decode cX6_end 6 = .ok (.iload_n 1, 1) := by decide +kernel
theorem dX6_end_7 : decode cX6_end 7 = .ok (.invokevirtual 75, 3) := by decide +kernel
theorem dX6_end_10 : decode cX6_end 10 = .ok (.ifCond .ne 9, 3) := by decide +kernel
theorem dX6_end_13 : decode cX6_end 13 = .ok (.aload_n 0, 1) := by decide +kernel
theorem dX6_end_14 : decode cX6_end 14 = .ok (.iconst 1, 1) := by decide +kernel
theorem dX6_end_15 : decode cX6_end 15 = .ok (.invokevirtual 60, 3) := by decide +kernel
theorem dX6_end_18 : decode cX6_end 18 = .ok (.ireturn, 1) := by decide +kernel
theorem dX6_end_19 : decode cX6_end 19 = .ok (.iload_n 2, 1) := by decide +kernel
theorem dX6_end_20 : decode cX6_end 20 = .ok (.iconst 0, 1) := by decide +kernel
theorem dX6_end_21 : decode cX6_end 21 = .ok (.iconst 1, 1) := by decide +kernel
theorem dX6_end_22 : decode cX6_end 22 = .ok (.invokestatic 42, 3) := by decide +kernel
theorem dX6_end_25 : decode cX6_end 25 = .ok (.ifCond .eq 17, 3) := by decide +kernel
theorem dX6_end_28 : decode cX6_end 28 = .ok (.aload_n 0, 1) := by decide +kernel
theorem dX6_end_29 : decode cX6_end 29 = .ok (.bipush 7, 2) := by decide +kernel
theorem dX6_end_31 : decode cX6_end 31 = .ok (.iload_n 1, 1) := by decide +kernel
theorem dX6_end_32 : decode cX6_end 32 = .ok (.iconst (-1), 1) := by decide +kernel
theorem dX6_end_33 : decode cX6_end 33 = .ok (.iconst (-1), 1) := by decide +kernel
theorem dX6_end_34 : decode cX6_end 34 = .ok (.iload_n 2, 1) := by decide +kernel
theorem dX6_end_35 : decode cX6_end 35 = .ok (.iconst 3, 1) := by decide +kernel
theorem dX6_end_36 : decode cX6_end 36 = .ok (.invokevirtual 67, 3) := by decide +kernel
theorem dX6_end_39 : decode cX6_end 39 = .ok (.goto 8, 3) := by decide +kernel
theorem dX6_end_42 : decode cX6_end 42 = .ok (.aload_n 0, 1) := by decide +kernel
theorem dX6_end_43 : decode cX6_end 43 = .ok (.iconst 2, 1) := by decide +kernel
theorem dX6_end_44 : decode cX6_end 44 = .ok (.invokevirtual 60, 3) := by decide +kernel
theorem dX6_end_47 : decode cX6_end 47 = .ok (.ireturn, 1) := by decide +kernel
theorem dX6_either_0 : decode cX6_either 0 = .ok (.aload_n 0, 1) := by decide +kernel
theorem dX6_either_1 : decode cX6_either 1 = .ok (.iconst 0, 1) := by decide +kernel
theorem dX6_either_2 : decode cX6_either 2 = .ok (.putfield 35, 3) := by decide +kernel
theorem dX6_either_5 : decode cX6_either 5 = .ok (.aload_n 0, 1) := by decide +kernel
theorem dX6_either_6 : decode cX6_either 6 = .ok (.iload_n 1, 1) := by decide +kernel
theorem dX6_either_7 : decode cX6_either 7 = .ok (.invokevirtual 75, 3) := by decide +kernel
theorem dX6_either_10 : decode cX6_either 10 = .ok (.ifCond .eq 33, 3) := by decide +kernel
theorem dX6_either_13 : decode cX6_either 13 = .ok (.aload_n 0, 1) := by decide +kernel
theorem dX6_either_14 : decode cX6_either 14 = .ok (.iload_n 2, 1) := by decide +kernel
theorem dX6_either_15 : decode cX6_either 15 = .ok (.invokevirtual 75, 3) := by decide +kernel
theorem dX6_either_18 : decode cX6_either 18 = .ok (.ifCond .eq 25, 3) := by decide +kernel
theorem dX6_either_21 : decode cX6_either 21 = .ok (.aload_n 0, 1) := by decide +kernel
theorem dX6_either_22 : decode cX6_either 22 = .ok (.iload_n 3, 1) := by decide +kernel
theorem dX6_either_23 : decode cX6_either 23 = .ok (.invokevirtual 75, 3) := by decide +kernel
theorem dX6_either_26 : decode cX6_either 26 = .ok (.ifCond .eq 17, 3) := by decide +kernel
theorem dX6_either_29 : decode cX6_either 29 = .ok (.aload_n 0, 1) := by decide +kernel
theorem dX6_either_30 : decode cX6_either 30 = .ok (.bipush 8, 2) := by decide +kernel
theorem dX6_either_32 : decode cX6_either 32 = .ok (.iload_n 1, 1) := by decide +kernel
theorem dX6_either_33 : decode cX6_either 33 = .ok (.iload_n 2, 1) := by decide +kernel
theorem dX6_either_34 : decode cX6_either 34 = .ok (.iload_n 3, 1) := by decide +kernel
theorem dX6_either_35 : decode cX6_either 35 = .ok (.iconst (-1), 1) := by decide +kernel
theorem dX6_either_36 : decode cX6_either 36 = .ok (.iconst 2, 1) := by decide +kernel
theorem dX6_either_37 : decode cX6_either 37 = .ok (.invokevirtual 67, 3) := by decide +kernel
theorem dX6_either_40 : decode cX6_either 40 = .ok (.goto 8, 3) := by decide +kernel
theorem dX6_either_43 : decode cX6_either 43 = .ok (.aload_n 0, 1) := by decide +kernel
theorem dX6_either_44 : decode cX6_either 44 = .ok (.iconst 1, 1) := by decide +kernel
theorem dX6_either_45 : decode cX6_either 45 = .ok (.invokevirtual 60, 3) := by decide +kernel
theorem dX6_either_48 : decode cX6_either 48 = .ok (.ireturn, 1) := by decide +kernel
theorem dX6_used_0 : decode cX6_used 0 = .ok (.aload_n 0, 1) := by decide +kernel
theorem dX6_used_1 : decode cX6_used 1 = .ok (.iload_n 1, 1) := by decide +kernel
theorem dX6_used_2 : decode cX6_used 2 = .ok (.invokevirtual 89, 3) := by decide +kernel
theorem dX6_used_5 : decode cX6_used 5 = .ok (.istore_n 3, 1) := by decide +kernel
theorem dX6_used_6 : decode cX6_used 6 = .ok (.aload_n 0, 1) := by decide +kernel
theorem dX6_used_7 : decode cX6_used 7 = .ok (.iload_n 3, 1) := by decide +kernel
theorem dX6_used_8 : decode cX6_used 8 = .ok (.invokevirtual 129, 3) := by decide +kernel
theorem dX6_used_11 : decode cX6_used 11 = .ok (.ifCond .ne 5, 3) := by decide +kernel
theorem dX6_used_14 : decode cX6_used 14 = .ok (.iload_n 3, 1) := by decide +kernel
theorem dX6_used_15 : decode cX6_used 15 = .ok (.ireturn, 1) := by decide +kernel
theorem dX6_used_16 : decode cX6_used 16 = .ok (.aload_n 0, 1) := by decide +kernel
theorem dX6_used_17 : decode cX6_used 17 = .ok (.iload_n 3, 1) := by decide +kernel
theorem dX6_used_18 : decode cX6_used 18 = .ok (.invokevirtual 92, 3) := by decide +kernel
theorem dX6_used_21 : decode cX6_used 21 = .ok (.ifCond .eq 40, 3) := by decide +kernel
theorem dX6_used_24 : decode cX6_used 24 = .ok (.aload_n 0, 1) := by decide +kernel
theorem dX6_used_25 : decode cX6_used 25 = .ok (.aload_n 0, 1) := by decide +kernel
theorem dX6_used_26 : decode cX6_used 26 = .ok (.getfield 16, 3) := by decide +kernel
theorem dX6_used_29 : decode cX6_used 29 = .ok (.iload_n 3, 1) := by decide +kernel
theorem dX6_used_30 : decode cX6_used 30 = .ok (.iaload, 1) := by decide +kernel
theorem dX6_used_31 : decode cX6_used 31 = .ok (.iload_n 2, 1) := by decide +kernel
theorem dX6_used_32 : decode cX6_used 32 = .ok (.invokevirtual 132, 3) := by decide +kernel
theorem dX6_used_35 : decode cX6_used 35 = .ok (.istore 4, 2) := by decide +kernel
theorem dX6_used_37 : decode cX6_used 37 = .ok (.aload_n 0, 1) := by decide +kernel
theorem dX6_used_38 : decode cX6_used 38 = .ok (.aload_n 0, 1) := by decide +kernel
theorem dX6_used_39 : decode cX6_used 39 = .ok (.getfield 13, 3) := by decide +kernel
theorem dX6_used_42 : decode cX6_used 42 = .ok (.iload_n 3, 1) := by decide +kernel
theorem dX6_used_43 : decode cX6_used 43 = .ok (.iaload, 1) := by decide +kernel
theorem dX6_used_44 : decode cX6_used 44 = .ok (.iload 4, 2) := by decide +kernel
theorem dX6_used_46 : decode cX6_used 46 = .ok (.aload_n 0, 1) := by decide +kernel
theorem dX6_used_47 : decode cX6_used 47 = .ok (.aload_n 0, 1) := by decide +kernel
theorem dX6_used_48 : decode cX6_used 48 = .ok (.getfield 19, 3) := by decide +kernel
theorem dX6_used_51 : decode cX6_used 51 = .ok (.iload_n 3, 1) := by decide +kernel
theorem dX6_used_52 : decode cX6_used 52 = .ok (.iaload, 1) := by decide +kernel
theorem dX6_used_53 : decode cX6_used 53 = .ok (.iload_n 2, 1) := by decide +kernel
theorem dX6_used_54 : decode cX6_used 54 = .ok (.invokevirtual 132, 3) := by decide +kernel
theorem dX6_used_57 : decode cX6_used 57 = .ok (.invokevirtual 85, 3) := by decide +kernel
theorem dX6_used_60 : decode cX6_used 60 = .ok (.ireturn, 1) := by decide +kernel
theorem dX6_used_61 : decode cX6_used 61 = .ok (.aload_n 0, 1) := by decide +kernel
theorem dX6_used_62 : decode cX6_used 62 = .ok (.getfield 26, 3) := by decide +kernel
theorem dX6_used_65 : decode cX6_used 65 = .ok (.iload_n 3, 1) := by decide +kernel
theorem dX6_used_66 : decode cX6_used 66 = .ok (.iaload, 1) := by decide +kernel
theorem dX6_used_67 : decode cX6_used 67 = .ok (.iload_n 2, 1) := by decide +kernel
theorem dX6_used_68 : decode cX6_used 68 = .ok (.if_icmp .lt 10, 3) := by decide +kernel
theorem dX6_used_71 : decode cX6_used 71 = .ok (.aload_n 0, 1) := by decide +kernel
theorem dX6_used_72 : decode cX6_used 72 = .ok (.getfield 26, 3) := by decide +kernel
theorem dX6_used_75 : decode cX6_used 75 = .ok (.iload_n 3, 1) := by decide +kernel
theorem dX6_used_76 : decode cX6_used 76 = .ok (.iaload, 1) := by decide +kernel
theorem dX6_used_77 : decode cX6_used 77 = .ok (.ireturn, 1) := by decide +kernel
theorem dX6_used_78 : decode cX6_used 78 = .ok (.aload_n 0, 1) := by decide +kernel
theorem dX6_used_79 : decode cX6_used 79 = .ok (.invokevirtual 135, 3) := by decide +kernel
theorem dX6_used_82 : decode cX6_used 82 = .ok (.istore 4, 2) := by decide +kernel
theorem dX6_used_84 : decode cX6_used 84 = .ok (.aload_n 0, 1) := by decide +kernel
theorem dX6_used_85 : decode cX6_used 85 = .ok (.getfield 26, 3) := by decide +kernel
theorem dX6_used_88 : decode cX6_used 88 = .ok (.iload_n 3, 1) := by decide +kernel
theorem dX6_used_89 : decode cX6_used 89 = .ok (.iload 4, 2) := by decide +kernel
theorem dX6_used_91 : decode cX6_used 91 = .ok (.iastore, 1) := by decide +kernel
theorem dX6_used_92 : decode cX6_used 92 = .ok (.iload 4, 2) := by decide +kernel
theorem dX6_used_94 : decode cX6_used 94 = .ok (.ireturn, 1) := by decide +kernel
theorem dX6_nameFound_0 : decode cX6_nameFound 0 = .ok (.aload_n 0, 1) := by decide +kernel
theorem dX6_nameFound_1 : decode cX6_nameFound 1 = .ok (.getfield 119, 3) := by decide +kernel
theorem dX6_nameFound_4 : decode cX6_nameFound 4 = .ok (.iconst 1, 1) := by decide +kernel
theorem dX6_nameFound_5 : decode cX6_nameFound 5 = .ok (.isub, 1) := by decide +kernel
theorem dX6_nameFound_6 : decode cX6_nameFound 6 = .ok (.istore_n 2, 1) := by decide +kernel
theorem dX6_nameFound_7 : decode cX6_nameFound 7 = .ok (.iload_n 2, 1) := by decide +kernel
theorem dX6_nameFound_8 : decode cX6_nameFound 8 = .ok (.ifCond .lt 39, 3) := by decide +kernel
theorem dX6_nameFound_11 : decode cX6_nameFound 11 = .ok (.aload_n 0, 1) := by decide +kernel
theorem dX6_nameFound_12 : decode cX6_nameFound 12 = .ok (.getfield 29, 3) := by decide +kernel
theorem dX6_nameFound_15 : decode cX6_nameFound 15 = .ok (.iload_n 2, 1) := by decide +kernel
theorem dX6_nameFound_16 : decode cX6_nameFound 16 = .ok (.iaload, 1) := by decide +kernel
theorem dX6_nameFound_17 : decode cX6_nameFound 17 = .ok (.aload_n 0, 1) := by decide +kernel
theorem dX6_nameFound_18 : decode cX6_nameFound 18 = .ok (.iload_n 1, 1) := by decide +kernel
theorem dX6_nameFound_19 : decode cX6_nameFound 19 = .ok (.iconst 4, 1) := by decide +kernel
theorem dX6_nameFound_20 : decode cX6_nameFound 20 = .ok (.invokevirtual 46, 3) := by decide +kernel
theorem dX6_nameFound_23 : decode cX6_nameFound 23 = .ok (.if_icmp .ne 18, 3) := by decide +kernel
theorem dX6_nameFound_26 : decode cX6_nameFound 26 = .ok (.aload_n 0, 1) := by decide +kernel
theorem dX6_nameFound_27 : decode cX6_nameFound 27 = .ok (.aload_n 0, 1) := by decide +kernel
theorem dX6_nameFound_28 : decode cX6_nameFound 28 = .ok (.getfield 32, 3) := by decide +kernel
theorem dX6_nameFound_31 : decode cX6_nameFound 31 = .ok (.iload_n 2, 1) := by decide +kernel
theorem dX6_nameFound_32 : decode cX6_nameFound 32 = .ok (.iaload, 1) := by decide +kernel
theorem dX6_nameFound_33 : decode cX6_nameFound 33 = .ok (.aload_n 0, 1) := by decide +kernel
theorem dX6_nameFound_34 : decode cX6_nameFound 34 = .ok (.getfield 78, 3) := by decide +kernel
theorem dX6_nameFound_37 : decode cX6_nameFound 37 = .ok (.invokevirtual 132, 3) := by decide +kernel
theorem dX6_nameFound_40 : decode cX6_nameFound 40 = .ok (.ireturn, 1) := by decide +kernel
theorem dX6_nameFound_41 : decode cX6_nameFound 41 = .ok (.iinc 2 (-1), 3) := by decide +kernel
theorem dX6_nameFound_44 : decode cX6_nameFound 44 = .ok (.goto (-37), 3) := by decide +kernel
theorem dX6_nameFound_47 : decode cX6_nameFound 47 = .ok (.aload_n 0, 1) := by decide +kernel
theorem dX6_nameFound_48 : decode cX6_nameFound 48 = .ok (.iconst 1, 1) := by decide +kernel
theorem dX6_nameFound_49 : decode cX6_nameFound 49 = .ok (.iload_n 1, 1) := by decide +kernel
theorem dX6_nameFound_50 : decode cX6_nameFound 50 = .ok (.invokevirtual 105, 3) := by decide +kernel
theorem dX6_nameFound_53 : decode cX6_nameFound 53 = .ok (.ireturn, 1) := by decide +kernel
section M3
variable {p : Program} {l : Launch} {e : Env} {R : Room} {s : State} {m : MethodId} {args : Array Value} {below : List Frame} {meth : Method} {c : Code} {D : va_G} {g : gT} {N : Nat} {ad ln ad0 ln0 : Nat → Nat}
def mX6_node_b87 (N cp k n : Nat) (A : gM) (x1 : Int32) (x2 : Int32) (x3 : Int32) : Option (gM × (Nat × Nat × Nat) × Int32) :=
  if g_in (A 183 3) cp = true then g_let (g_up A 185 (A 183 3).toNatClampNeg x1) fun A2 =>
  if g_in (A2 183 3) cp = true then g_let (g_up A2 186 (A2 183 3).toNatClampNeg x2) fun A4 =>
  if g_in (A4 183 3) cp = true then g_let (g_up A4 187 (A4 183 3).toNatClampNeg x3) fun A6 =>
  if g_in (A6 183 3) cp = true then g_let (g_up A6 188 (A6 183 3).toNatClampNeg (vp_nar .boolean 0)) fun A8 =>
  if g_in (A8 183 3) cp = true then g_let (g_up A8 189 (A8 183 3).toNatClampNeg (-1)) fun A10 =>
  g_let (g_up A10 183 3 ((A10 183 3) + 1)) fun A11 =>
  some (A11, (cp, k, n), ((A11 183 3) - 1))
  else none
  else none
  else none
  else none
  else none
def mX6_node_b0 (N cp k n : Nat) (A : gM) (x1 : Int32) (x2 : Int32) (x3 : Int32) : Option (gM × (Nat × Nat × Nat) × Int32) :=
  if (A 183 3) = (Int32.ofNat cp) then
  if g_grok A cp = true then
  mX6_node_b87 N (2 * cp) (k + 5) (n + 10 * cp) (g_grown A cp) x1 x2 x3
  else none
  else
  mX6_node_b87 N cp k n A x1 x2 x3
def mX6_node (N cp : Nat) (A : gM) (x1 : Int32) (x2 : Int32) (x3 : Int32) : Option (gM × (Nat × Nat × Nat) × Int32) := mX6_node_b0 N cp 0 0 A x1 x2 x3
set_option maxHeartbeats 2000000 in
set_option maxRecDepth 20000 in
theorem oX6_node_b87 {N : Nat} {A' : gM} {u : Nat × Nat × Nat} {r : Int32}  {cp k n : Nat} {A : gM} {x1 : Int32} {x2 : Int32} {x3 : Int32} (h : mX6_node_b87 N cp k n A x1 x2 x3 = some (A', u, r)) : k ≤ u.2.1 ∧ n ≤ u.2.2 := by
  unfold mX6_node_b87 at h
  obtain ⟨hg1, h⟩ := g_gd h
  obtain ⟨A2, eA2, h⟩ := g_lt h
  obtain ⟨hg3, h⟩ := g_gd h
  obtain ⟨A4, eA4, h⟩ := g_lt h
  obtain ⟨hg5, h⟩ := g_gd h
  obtain ⟨A6, eA6, h⟩ := g_lt h
  obtain ⟨hg7, h⟩ := g_gd h
  obtain ⟨A8, eA8, h⟩ := g_lt h
  obtain ⟨hg9, h⟩ := g_gd h
  obtain ⟨A10, eA10, h⟩ := g_lt h
  obtain ⟨A11, eA11, h⟩ := g_lt h
  obtain ⟨rfl, h2⟩ := Prod.mk.inj (Option.some.inj h)
  obtain ⟨rfl, rfl⟩ := Prod.mk.inj h2
  exact ⟨Nat.le_refl _, Nat.le_refl _⟩

set_option maxHeartbeats 2000000 in
set_option maxRecDepth 20000 in
theorem wX6_node_b87 (hN : 193 ≤ N)  {A0 A' : gM} {u : Nat × Nat × Nat} {r : Int32} (C : gC p (g_rmx 3 u.2.1 u.2.2) s m args meth c cX6_node RX6 5 D g (va_A (gw g ad0 ln0 A0 N) s.heap.size) 3) (hr : meth.sig.returnType = some .int)  {cp k n : Nat} (hch : g_chg N ad0 ln0 ad ln cp) {A : gM} {x1 : Int32} {x2 : Int32} {x3 : Int32} (h : mX6_node_b87 N cp k n A x1 x2 x3 = some (A', u, r)) : gJ p l e (g_rmx 3 u.2.1 u.2.2) s m args below meth c (gEAi below D g N ad0 ln0 A0 A' u r args s) 5 D g (va_A (gw g ad0 ln0 A0 N) s.heap.size) N ad ln A [(0, gr 183), (1, gi x1), (2, gi x2), (3, gi x3)] k n 87 [] := by
  have hkn := oX6_node_b87 h
  unfold mX6_node_b87 at h
  refine g_aload_n C 0 dX6_node_87 rfl ?_
  refine g_get (v := gr 185) C 183 4 (by omega) rfl rfl gu_6 (by decide) qf_X6_13 rfl dX6_node_88 ?_
  refine g_aload_n C 0 dX6_node_91 rfl ?_
  refine g_get (v := gi (A 183 3)) C 183 3 (by omega) rfl rfl gu_6 (by decide) qf_X6_78 rfl dX6_node_92 ?_
  refine g_iload_n C 1 dX6_node_95 rfl ?_
  obtain ⟨hg1, h⟩ := g_gd h
  obtain ⟨A2, eA2, h⟩ := g_lt h
  refine g_iast C 185 (by omega) rfl (show g_ln ln 185 = cp from hch.2.1) hg1 eA2 dX6_node_96 ?_
  refine g_aload_n C 0 dX6_node_97 rfl ?_
  refine g_get (v := gr 186) C 183 5 (by omega) rfl rfl gu_6 (by decide) qf_X6_16 rfl dX6_node_98 ?_
  refine g_aload_n C 0 dX6_node_101 rfl ?_
  refine g_get (v := gi (A2 183 3)) C 183 3 (by omega) rfl rfl gu_6 (by decide) qf_X6_78 rfl dX6_node_102 ?_
  refine g_iload_n C 2 dX6_node_105 rfl ?_
  obtain ⟨hg3, h⟩ := g_gd h
  obtain ⟨A4, eA4, h⟩ := g_lt h
  refine g_iast C 186 (by omega) rfl (show g_ln ln 186 = cp from hch.2.2.1) hg3 eA4 dX6_node_106 ?_
  refine g_aload_n C 0 dX6_node_107 rfl ?_
  refine g_get (v := gr 187) C 183 6 (by omega) rfl rfl gu_6 (by decide) qf_X6_19 rfl dX6_node_108 ?_
  refine g_aload_n C 0 dX6_node_111 rfl ?_
  refine g_get (v := gi (A4 183 3)) C 183 3 (by omega) rfl rfl gu_6 (by decide) qf_X6_78 rfl dX6_node_112 ?_
  refine g_iload_n C 3 dX6_node_115 rfl ?_
  obtain ⟨hg5, h⟩ := g_gd h
  obtain ⟨A6, eA6, h⟩ := g_lt h
  refine g_iast C 187 (by omega) rfl (show g_ln ln 187 = cp from hch.2.2.2.1) hg5 eA6 dX6_node_116 ?_
  refine g_aload_n C 0 dX6_node_117 rfl ?_
  refine g_get (v := gr 188) C 183 7 (by omega) rfl rfl gu_6 (by decide) qf_X6_22 rfl dX6_node_118 ?_
  refine g_aload_n C 0 dX6_node_121 rfl ?_
  refine g_get (v := gi (A6 183 3)) C 183 3 (by omega) rfl rfl gu_6 (by decide) qf_X6_78 rfl dX6_node_122 ?_
  refine g_iconst (v := 0) C dX6_node_125 (by decide) ?_
  obtain ⟨hg7, h⟩ := g_gd h
  obtain ⟨A8, eA8, h⟩ := g_lt h
  refine g_zast C (by omega) (by rw [hch.2.2.2.2.1]; exact hg7) eA8 dX6_node_126 ?_
  refine g_aload_n C 0 dX6_node_127 rfl ?_
  refine g_get (v := gr 189) C 183 8 (by omega) rfl rfl gu_6 (by decide) qf_X6_26 rfl dX6_node_128 ?_
  refine g_aload_n C 0 dX6_node_131 rfl ?_
  refine g_get (v := gi (A8 183 3)) C 183 3 (by omega) rfl rfl gu_6 (by decide) qf_X6_78 rfl dX6_node_132 ?_
  refine g_iconst (v := (-1)) C dX6_node_135 (by decide) ?_
  obtain ⟨hg9, h⟩ := g_gd h
  obtain ⟨A10, eA10, h⟩ := g_lt h
  refine g_iast C 189 (by omega) rfl (show g_ln ln 189 = cp from hch.2.2.2.2.2) hg9 eA10 dX6_node_136 ?_
  refine g_aload_n C 0 dX6_node_137 rfl ?_
  refine g_dup_r C dX6_node_138 ?_
  refine g_get (v := gi (A10 183 3)) C 183 3 (by omega) rfl rfl gu_6 (by decide) qf_X6_78 rfl dX6_node_139 ?_
  refine g_iconst (v := 1) C dX6_node_142 (by decide) ?_
  refine g_iadd C dX6_node_143 ?_
  obtain ⟨A11, eA11, h⟩ := g_lt h
  refine g_put C 183 3 tyX6 tyX6_ok nmX6 (by omega) rfl rfl gu_6 (by decide) qf_X6_78 rfl (by decide +kernel) (Nat.le_of_ble_eq_true rfl) rfl eA11 dX6_node_144 ?_
  refine g_aload_n C 0 dX6_node_147 rfl ?_
  refine g_get (v := gi (A11 183 3)) C 183 3 (by omega) rfl rfl gu_6 (by decide) qf_X6_78 rfl dX6_node_148 ?_
  refine g_iconst (v := 1) C dX6_node_151 (by decide) ?_
  refine g_isub C dX6_node_152 ?_
  obtain ⟨rfl, h2⟩ := Prod.mk.inj (Option.some.inj h)
  obtain ⟨rfl, rfl⟩ := Prod.mk.inj h2
  exact g_retAi C hch hr dX6_node_153

set_option maxHeartbeats 2000000 in
set_option maxRecDepth 20000 in
theorem oX6_node_b0 {N : Nat} {A' : gM} {u : Nat × Nat × Nat} {r : Int32}  {cp k n : Nat} {A : gM} {x1 : Int32} {x2 : Int32} {x3 : Int32} (h : mX6_node_b0 N cp k n A x1 x2 x3 = some (A', u, r)) : k ≤ u.2.1 ∧ n ≤ u.2.2 := by
  unfold mX6_node_b0 at h
  by_cases c1 : (A 183 3) = (Int32.ofNat cp)
  · have h := g_tt c1 h
    obtain ⟨hg, h⟩ := g_gd h
    have mo := oX6_node_b87 h
    exact ⟨by omega, by omega⟩
  · have h := g_ff c1 h
    exact oX6_node_b87 h

set_option maxHeartbeats 2000000 in
set_option maxRecDepth 20000 in
theorem wX6_node_b0 (hN : 193 ≤ N)  {A0 A' : gM} {u : Nat × Nat × Nat} {r : Int32} (C : gC p (g_rmx 3 u.2.1 u.2.2) s m args meth c cX6_node RX6 5 D g (va_A (gw g ad0 ln0 A0 N) s.heap.size) 3) (hr : meth.sig.returnType = some .int)  {cp k n : Nat} (hch : g_chg N ad0 ln0 ad ln cp) {A : gM} {x1 : Int32} {x2 : Int32} {x3 : Int32} (h : mX6_node_b0 N cp k n A x1 x2 x3 = some (A', u, r)) : gJ p l e (g_rmx 3 u.2.1 u.2.2) s m args below meth c (gEAi below D g N ad0 ln0 A0 A' u r args s) 5 D g (va_A (gw g ad0 ln0 A0 N) s.heap.size) N ad ln A [(0, gr 183), (1, gi x1), (2, gi x2), (3, gi x3)] k n 0 [] := by
  have hkn := oX6_node_b0 h
  unfold mX6_node_b0 at h
  refine g_aload_n C 0 dX6_node_0 rfl ?_
  refine g_get (v := gi (A 183 3)) C 183 3 (by omega) rfl rfl gu_6 (by decide) qf_X6_78 rfl dX6_node_1 ?_
  refine g_aload_n C 0 dX6_node_4 rfl ?_
  refine g_get (v := gr 185) C 183 4 (by omega) rfl rfl gu_6 (by decide) qf_X6_13 rfl dX6_node_5 ?_
  refine g_alen (v := Int32.ofNat cp) C 185 (by omega) rfl (by rw [(show g_ln ln 185 = cp from hch.2.1)]) dX6_node_8 ?_
  refine g_icmp_ne C dX6_node_9 (tgt := 87) (by decide) (fun c1 => ?_) (fun c1 => ?_)
  · have h := g_ff c1 h
    refine g_sub [0, 1, 2, 3] rfl ?_
    exact wX6_node_b87 hN C hr hch h
  · have h := g_tt c1 h
    have hcN := c1
    obtain ⟨hg, h⟩ := g_gd h
    have mo := oX6_node_b87 h
    refine g_grow hN C hch hg (by omega) hcN ⟨mo.1, mo.2⟩ (fun ad ln hch => ?_)
    refine g_sub [0, 1, 2, 3] rfl ?_
    exact wX6_node_b87 hN C hr hch h

set_option maxHeartbeats 2000000 in
set_option maxRecDepth 20000 in
theorem kX6_node {l : Launch} {D : va_G} {g : gT} {N : Nat} (hN : 193 ≤ N) {ad ln : Nat → Nat} {cp : Nat} (hcp : g_cap ln cp) {A A' : gM} {x1 : Int32} {x2 : Int32} {x3 : Int32} {u : Nat × Nat × Nat} {r : Int32} (h : mX6_node N cp A x1 x2 x3 = some (A', u, r)) : gAi l yX6_node cX6_node 5 (some .int) (3) D g N ad ln A [gr 183, gi x1, gi x2, gi x3] A' u r := by
  refine g_metAi (by decide) (Nat.le_of_ble_eq_true rfl) ?_
  intro p e s m args below meth c C hr
  refine g_sub [0, 1, 2, 3] rfl ?_
  exact wX6_node_b0 hN C hr (g_chg.rf hcp) h
def mX6_variable_b7 (N cp k n : Nat) (A : gM) (s0 : Int32) : Option (gM × (Nat × Nat × Nat) × Int32) :=
  some (A, (cp, k, n), s0)
def mX6_variable_b0 (N cp k n : Nat) (A : gM) : Option (gM × (Nat × Nat × Nat) × Int32) :=
  (mX6_node N cp A 4 (-1) (-1)).bind fun q1 =>
  mX6_variable_b7 N q1.2.1.1 (k + q1.2.1.2.1) (n + q1.2.1.2.2) q1.1 q1.2.2
def mX6_variable (N cp : Nat) (A : gM) : Option (gM × (Nat × Nat × Nat) × Int32) := mX6_variable_b0 N cp 0 0 A
set_option maxHeartbeats 2000000 in
set_option maxRecDepth 20000 in
theorem oX6_variable_b7 {N : Nat} {A' : gM} {u : Nat × Nat × Nat} {r : Int32}  {cp k n : Nat} {A : gM} {s0 : Int32} (h : mX6_variable_b7 N cp k n A s0 = some (A', u, r)) : k ≤ u.2.1 ∧ n ≤ u.2.2 := by
  unfold mX6_variable_b7 at h
  obtain ⟨rfl, h2⟩ := Prod.mk.inj (Option.some.inj h)
  obtain ⟨rfl, rfl⟩ := Prod.mk.inj h2
  exact ⟨Nat.le_refl _, Nat.le_refl _⟩

set_option maxHeartbeats 2000000 in
set_option maxRecDepth 20000 in
theorem wX6_variable_b7 (hN : 193 ≤ N)  {A0 A' : gM} {u : Nat × Nat × Nat} {r : Int32} (C : gC p (g_rmx 4 u.2.1 u.2.2) s m args meth c cX6_variable RX6 1 D g (va_A (gw g ad0 ln0 A0 N) s.heap.size) 4) (hr : meth.sig.returnType = some .int)  {cp k n : Nat} (hch : g_chg N ad0 ln0 ad ln cp) {A : gM} {s0 : Int32} (h : mX6_variable_b7 N cp k n A s0 = some (A', u, r)) : gJ p l e (g_rmx 4 u.2.1 u.2.2) s m args below meth c (gEAi below D g N ad0 ln0 A0 A' u r args s) 1 D g (va_A (gw g ad0 ln0 A0 N) s.heap.size) N ad ln A [] k n 7 [gi s0] := by
  have hkn := oX6_variable_b7 h
  unfold mX6_variable_b7 at h
  obtain ⟨rfl, h2⟩ := Prod.mk.inj (Option.some.inj h)
  obtain ⟨rfl, rfl⟩ := Prod.mk.inj h2
  exact g_retAi C hch hr dX6_variable_7

set_option maxHeartbeats 2000000 in
set_option maxRecDepth 20000 in
theorem oX6_variable_b0 {N : Nat} {A' : gM} {u : Nat × Nat × Nat} {r : Int32}  {cp k n : Nat} {A : gM} (h : mX6_variable_b0 N cp k n A = some (A', u, r)) : k ≤ u.2.1 ∧ n ≤ u.2.2 := by
  unfold mX6_variable_b0 at h
  obtain ⟨q1, eq1, h⟩ := g_bd h
  have mo := oX6_variable_b7 h
  exact ⟨by omega, by omega⟩

set_option maxHeartbeats 2000000 in
set_option maxRecDepth 20000 in
theorem wX6_variable_b0 (hN : 193 ≤ N)  {A0 A' : gM} {u : Nat × Nat × Nat} {r : Int32} (C : gC p (g_rmx 4 u.2.1 u.2.2) s m args meth c cX6_variable RX6 1 D g (va_A (gw g ad0 ln0 A0 N) s.heap.size) 4) (hr : meth.sig.returnType = some .int)  {cp k n : Nat} (hch : g_chg N ad0 ln0 ad ln cp) {A : gM} (h : mX6_variable_b0 N cp k n A = some (A', u, r)) : gJ p l e (g_rmx 4 u.2.1 u.2.2) s m args below meth c (gEAi below D g N ad0 ln0 A0 A' u r args s) 1 D g (va_A (gw g ad0 ln0 A0 N) s.heap.size) N ad ln A [(0, gr 183)] k n 0 [] := by
  have hkn := oX6_variable_b0 h
  unfold mX6_variable_b0 at h
  refine g_aload_n C 0 dX6_variable_0 rfl ?_
  refine g_iconst (v := 4) C dX6_variable_1 (by decide) ?_
  refine g_iconst (v := (-1)) C dX6_variable_2 (by decide) ?_
  refine g_iconst (v := (-1)) C dX6_variable_3 (by decide) ?_
  obtain ⟨q1, eq1, h⟩ := g_bd h
  have mo := oX6_variable_b7 h
  refine g_callAiV C 183 [gi 4, gi (-1), gi (-1)] (kX6_node hN hch.2 eq1) qs_X6_85 (by omega) (by omega) rfl rfl rfl rfl (Nat.le_of_ble_eq_true rfl) ⟨mo.1, mo.2⟩ (And.intro ⟨by omega, by omega⟩ True.intro) True.intro dX6_variable_4 (fun ad1 ln1 hch1 => ?_)
  have hch := g_chg.trans (by omega) hch hch1
  refine g_sub [] rfl ?_
  exact wX6_variable_b7 hN C hr hch h

set_option maxHeartbeats 2000000 in
set_option maxRecDepth 20000 in
theorem kX6_variable {l : Launch} {D : va_G} {g : gT} {N : Nat} (hN : 193 ≤ N) {ad ln : Nat → Nat} {cp : Nat} (hcp : g_cap ln cp) {A A' : gM} {u : Nat × Nat × Nat} {r : Int32} (h : mX6_variable N cp A = some (A', u, r)) : gAi l yX6_variable cX6_variable 1 (some .int) (4) D g N ad ln A [gr 183] A' u r := by
  refine g_metAi (by decide) (Nat.le_of_ble_eq_true rfl) ?_
  intro p e s m args below meth c C hr
  refine g_sub [0] rfl ?_
  exact wX6_variable_b0 hN C hr (g_chg.rf hcp) h
def mX6_put_b4 (N cp k n : Nat) (A : gM) (x1 : Int32) (x2 : Int32) (x3 : Int32) (x4 : Int32) (x5 : Int32) (ws0 : Nat) : Option (gM × (Nat × Nat × Nat)) :=
  if g_in 0 ws0 = true then g_let (g_up A N (0 : Int32).toNatClampNeg x1) fun A2 =>
  if g_in 1 ws0 = true then g_let (g_up A2 N (1 : Int32).toNatClampNeg x2) fun A4 =>
  if g_in 2 ws0 = true then g_let (g_up A4 N (2 : Int32).toNatClampNeg x3) fun A6 =>
  if g_in 3 ws0 = true then g_let (g_up A6 N (3 : Int32).toNatClampNeg x4) fun A8 =>
  if g_in 4 ws0 = true then g_let (g_up A8 N (4 : Int32).toNatClampNeg x5) fun A10 =>
  (mX6_size cp A10 x2).bind fun q11 =>
  (mX6_size cp q11.1 x3).bind fun q12 =>
  (mX6_size cp q12.1 x4).bind fun q13 =>
  if g_in 5 ws0 = true then g_let (g_up q13.1 N (5 : Int32).toNatClampNeg (((1 + q11.2) + q12.2) + q13.2)) fun A15 =>
  if ¬ 0 < (0 : Int32) ∧ ¬ (6 * (A15 183 1)) < (0 : Int32) ∧ ¬ 6 < (0 : Int32) ∧ (0 : Int32).toNatClampNeg + (6 : Int32).toNatClampNeg ≤ ws0 ∧ (6 * (A15 183 1)).toNatClampNeg + (6 : Int32).toNatClampNeg ≤ 246 then g_let (g_row A15 184 (va_cpy (A15 N) (A15 184) (0 : Int32).toNatClampNeg (6 * (A15 183 1)).toNatClampNeg (6 : Int32).toNatClampNeg)) fun A17 =>
  some (A17, (cp, k, n))
  else none
  else none
  else none
  else none
  else none
  else none
  else none
def mX6_put_b0 (N cp k n : Nat) (A : gM) (x1 : Int32) (x2 : Int32) (x3 : Int32) (x4 : Int32) (x5 : Int32) : Option (gM × (Nat × Nat × Nat)) :=
  if ¬ 6 < (0 : Int32) ∧ (6 : Int32).toNatClampNeg ≤ 100000 then
  mX6_put_b4 N cp (k + 1) (n + (6 : Int32).toNatClampNeg) (g_row A N (fun _ => 0)) x1 x2 x3 x4 x5 ((6 : Int32).toNatClampNeg)
  else none
def mX6_put (N cp : Nat) (A : gM) (x1 : Int32) (x2 : Int32) (x3 : Int32) (x4 : Int32) (x5 : Int32) : Option (gM × (Nat × Nat × Nat)) := mX6_put_b0 N cp 0 0 A x1 x2 x3 x4 x5
set_option maxHeartbeats 2000000 in
set_option maxRecDepth 20000 in
theorem oX6_put_b4 {N : Nat} {A' : gM} {u : Nat × Nat × Nat}  {cp k n : Nat} {A : gM} {x1 : Int32} {x2 : Int32} {x3 : Int32} {x4 : Int32} {x5 : Int32} {ws0 : Nat} (h : mX6_put_b4 N cp k n A x1 x2 x3 x4 x5 ws0 = some (A', u)) : k ≤ u.2.1 ∧ n ≤ u.2.2 := by
  unfold mX6_put_b4 at h
  obtain ⟨hg1, h⟩ := g_gd h
  obtain ⟨A2, eA2, h⟩ := g_lt h
  obtain ⟨hg3, h⟩ := g_gd h
  obtain ⟨A4, eA4, h⟩ := g_lt h
  obtain ⟨hg5, h⟩ := g_gd h
  obtain ⟨A6, eA6, h⟩ := g_lt h
  obtain ⟨hg7, h⟩ := g_gd h
  obtain ⟨A8, eA8, h⟩ := g_lt h
  obtain ⟨hg9, h⟩ := g_gd h
  obtain ⟨A10, eA10, h⟩ := g_lt h
  obtain ⟨q11, eq11, h⟩ := g_bd h
  obtain ⟨q12, eq12, h⟩ := g_bd h
  obtain ⟨q13, eq13, h⟩ := g_bd h
  obtain ⟨hg14, h⟩ := g_gd h
  obtain ⟨A15, eA15, h⟩ := g_lt h
  obtain ⟨hg16, h⟩ := g_gd h
  obtain ⟨A17, eA17, h⟩ := g_lt h
  obtain ⟨rfl, rfl⟩ := Prod.mk.inj (Option.some.inj h)
  exact ⟨Nat.le_refl _, Nat.le_refl _⟩

set_option maxHeartbeats 2000000 in
set_option maxRecDepth 20000 in
theorem wX6_put_b4 (hN : 193 ≤ N)  {A0 A' : gM} {u : Nat × Nat × Nat} (C : gC p (g_rmx 3 u.2.1 u.2.2) s m args meth c cX6_put RX6 7 D g (va_A (gw g ad0 ln0 A0 N) s.heap.size) 3) (hr : meth.sig.returnType = none)  {cp k n : Nat} (hch : g_chg N ad0 ln0 ad ln cp) {A : gM} {x1 : Int32} {x2 : Int32} {x3 : Int32} {x4 : Int32} {x5 : Int32} {ws0 : Nat} (hws0 : g_ln ln N = ws0) (h : mX6_put_b4 N cp k n A x1 x2 x3 x4 x5 ws0 = some (A', u)) : gJ p l e (g_rmx 3 u.2.1 u.2.2) s m args below meth c (gEAv below D g N ad0 ln0 A0 A' u args s) 7 D g (va_A (gw g ad0 ln0 A0 N) s.heap.size) (N + 1) ad ln A [(0, gr 183), (1, gi x1), (2, gi x2), (3, gi x3), (4, gi x4), (5, gi x5)] k n 4 [gr N] := by
  have hkn := oX6_put_b4 h
  unfold mX6_put_b4 at h
  refine g_dup_r C dX6_put_4 ?_
  refine g_iconst (v := 0) C dX6_put_5 (by decide) ?_
  refine g_iload_n C 1 dX6_put_6 rfl ?_
  obtain ⟨hg1, h⟩ := g_gd h
  obtain ⟨A2, eA2, h⟩ := g_lt h
  refine g_iast C N (by omega) (g_isI_big (by omega)) hws0 hg1 eA2 dX6_put_7 ?_
  refine g_dup_r C dX6_put_8 ?_
  refine g_iconst (v := 1) C dX6_put_9 (by decide) ?_
  refine g_iload_n C 2 dX6_put_10 rfl ?_
  obtain ⟨hg3, h⟩ := g_gd h
  obtain ⟨A4, eA4, h⟩ := g_lt h
  refine g_iast C N (by omega) (g_isI_big (by omega)) hws0 hg3 eA4 dX6_put_11 ?_
  refine g_dup_r C dX6_put_12 ?_
  refine g_iconst (v := 2) C dX6_put_13 (by decide) ?_
  refine g_iload_n C 3 dX6_put_14 rfl ?_
  obtain ⟨hg5, h⟩ := g_gd h
  obtain ⟨A6, eA6, h⟩ := g_lt h
  refine g_iast C N (by omega) (g_isI_big (by omega)) hws0 hg5 eA6 dX6_put_15 ?_
  refine g_dup_r C dX6_put_16 ?_
  refine g_iconst (v := 3) C dX6_put_17 (by decide) ?_
  refine g_iload C 4 dX6_put_18 rfl ?_
  obtain ⟨hg7, h⟩ := g_gd h
  obtain ⟨A8, eA8, h⟩ := g_lt h
  refine g_iast C N (by omega) (g_isI_big (by omega)) hws0 hg7 eA8 dX6_put_20 ?_
  refine g_dup_r C dX6_put_21 ?_
  refine g_iconst (v := 4) C dX6_put_22 (by decide) ?_
  refine g_iload C 5 dX6_put_23 rfl ?_
  obtain ⟨hg9, h⟩ := g_gd h
  obtain ⟨A10, eA10, h⟩ := g_lt h
  refine g_iast C N (by omega) (g_isI_big (by omega)) hws0 hg9 eA10 dX6_put_25 ?_
  refine g_dup_r C dX6_put_26 ?_
  refine g_iconst (v := 5) C dX6_put_27 (by decide) ?_
  refine g_iconst (v := 1) C dX6_put_28 (by decide) ?_
  refine g_aload_n C 0 dX6_put_29 rfl ?_
  refine g_iload_n C 2 dX6_put_30 rfl ?_
  obtain ⟨q11, eq11, h⟩ := g_bd h
  refine g_calliV C 183 [gi x2] (kX6_size (by omega) hch.2 eq11) qs_X6_50 (by omega) (by omega) rfl rfl rfl rfl (Nat.le_of_ble_eq_true rfl) hkn dX6_put_31 ?_
  refine g_iadd C dX6_put_34 ?_
  refine g_aload_n C 0 dX6_put_35 rfl ?_
  refine g_iload_n C 3 dX6_put_36 rfl ?_
  obtain ⟨q12, eq12, h⟩ := g_bd h
  refine g_calliV C 183 [gi x3] (kX6_size (by omega) hch.2 eq12) qs_X6_50 (by omega) (by omega) rfl rfl rfl rfl (Nat.le_of_ble_eq_true rfl) hkn dX6_put_37 ?_
  refine g_iadd C dX6_put_40 ?_
  refine g_aload_n C 0 dX6_put_41 rfl ?_
  refine g_iload C 4 dX6_put_42 rfl ?_
  obtain ⟨q13, eq13, h⟩ := g_bd h
  refine g_calliV C 183 [gi x4] (kX6_size (by omega) hch.2 eq13) qs_X6_50 (by omega) (by omega) rfl rfl rfl rfl (Nat.le_of_ble_eq_true rfl) hkn dX6_put_44 ?_
  refine g_iadd C dX6_put_47 ?_
  obtain ⟨hg14, h⟩ := g_gd h
  obtain ⟨A15, eA15, h⟩ := g_lt h
  refine g_iast C N (by omega) (g_isI_big (by omega)) hws0 hg14 eA15 dX6_put_48 ?_
  refine g_astore C dX6_put_49 (by decide) rfl ?_
  refine g_aload C 0 dX6_put_51 rfl ?_
  refine g_iconst (v := 0) C dX6_put_53 (by decide) ?_
  refine g_aload_n C 1 dX6_put_54 rfl ?_
  refine g_get (v := gr 184) C 183 2 (by omega) rfl rfl gu_6 (by decide) qf_X6_9 rfl dX6_put_55 ?_
  refine g_bipush (v := 6) C dX6_put_58 (by decide) ?_
  refine g_aload_n C 1 dX6_put_60 rfl ?_
  refine g_get (v := gi (A15 183 1)) C 183 1 (by omega) rfl rfl gu_6 (by decide) qf_X6_39 rfl dX6_put_61 ?_
  refine g_imul C dX6_put_64 ?_
  refine g_bipush (v := 6) C dX6_put_65 (by decide) ?_
  obtain ⟨hg16, h⟩ := g_gd h
  obtain ⟨A17, eA17, h⟩ := g_lt h
  refine g_copy C N 184 qsC_X6_54 (by omega) (g_isI_big (by omega)) hws0 (by omega) rfl rfl hg16.1 hg16.2.1 hg16.2.2.1 hg16.2.2.2.1 hg16.2.2.2.2 (by omega) (Nat.le_of_ble_eq_true rfl) eA17 dX6_put_67 ?_
  obtain ⟨rfl, rfl⟩ := Prod.mk.inj (Option.some.inj h)
  refine g_drop ?_
  exact g_retAv C hch hr dX6_put_70

set_option maxHeartbeats 2000000 in
set_option maxRecDepth 20000 in
theorem oX6_put_b0 {N : Nat} {A' : gM} {u : Nat × Nat × Nat}  {cp k n : Nat} {A : gM} {x1 : Int32} {x2 : Int32} {x3 : Int32} {x4 : Int32} {x5 : Int32} (h : mX6_put_b0 N cp k n A x1 x2 x3 x4 x5 = some (A', u)) : k ≤ u.2.1 ∧ n ≤ u.2.2 := by
  unfold mX6_put_b0 at h
  obtain ⟨hg1, h⟩ := g_gd h
  have mo := oX6_put_b4 h
  exact ⟨by omega, by omega⟩

set_option maxHeartbeats 2000000 in
set_option maxRecDepth 20000 in
theorem wX6_put_b0 (hN : 193 ≤ N)  {A0 A' : gM} {u : Nat × Nat × Nat} (C : gC p (g_rmx 3 u.2.1 u.2.2) s m args meth c cX6_put RX6 7 D g (va_A (gw g ad0 ln0 A0 N) s.heap.size) 3) (hr : meth.sig.returnType = none)  {cp k n : Nat} (hch : g_chg N ad0 ln0 ad ln cp) {A : gM} {x1 : Int32} {x2 : Int32} {x3 : Int32} {x4 : Int32} {x5 : Int32} (h : mX6_put_b0 N cp k n A x1 x2 x3 x4 x5 = some (A', u)) : gJ p l e (g_rmx 3 u.2.1 u.2.2) s m args below meth c (gEAv below D g N ad0 ln0 A0 A' u args s) 7 D g (va_A (gw g ad0 ln0 A0 N) s.heap.size) N ad ln A [(0, gr 183), (1, gi x1), (2, gi x2), (3, gi x3), (4, gi x4), (5, gi x5)] k n 0 [] := by
  have hkn := oX6_put_b0 h
  unfold mX6_put_b0 at h
  refine g_bipush (v := 6) C dX6_put_0 (by decide) ?_
  obtain ⟨hg1, h⟩ := g_gd h
  have mo := oX6_put_b4 h
  refine g_newI C (N := N) (by omega) qa_int hg1.1 rfl hg1.2 ⟨mo.1, mo.2⟩ (by simp [g_rlt] <;> omega) (by simp [g_rlt] <;> omega) dX6_put_2 (fun q => ?_)
  have hch : g_chg N ad0 ln0 (va_up ad N q) (va_up ln N (6 : Int32).toNatClampNeg) cp := g_chg_new (by omega) hch
  refine g_sub [0, 1, 2, 3, 4, 5] rfl ?_
  exact wX6_put_b4 hN C hr hch (g_len_made (N := N) (by omega)) h

set_option maxHeartbeats 2000000 in
set_option maxRecDepth 20000 in
theorem kX6_put {l : Launch} {D : va_G} {g : gT} {N : Nat} (hN : 193 ≤ N) {ad ln : Nat → Nat} {cp : Nat} (hcp : g_cap ln cp) {A A' : gM} {x1 : Int32} {x2 : Int32} {x3 : Int32} {x4 : Int32} {x5 : Int32} {u : Nat × Nat × Nat} (h : mX6_put N cp A x1 x2 x3 x4 x5 = some (A', u)) : gAv l yX6_put cX6_put 7 (none) (3) D g N ad ln A [gr 183, gi x1, gi x2, gi x3, gi x4, gi x5] A' u := by
  refine g_metAv (by decide) (Nat.le_of_ble_eq_true rfl) ?_
  intro p e s m args below meth c C hr
  refine g_sub [0, 1, 2, 3, 4, 5] rfl ?_
  exact wX6_put_b0 hN C hr (g_chg.rf hcp) h
def mX6_made_b34 (N cp k n : Nat) (A : gM) (x6 : Int32) : Option (gM × (Nat × Nat × Nat) × Int32) :=
  (mX6_fail cp A x6).bind fun q1 =>
  some (q1.1, (cp, k, n), q1.2)
def mX6_made_b52 (N cp k n : Nat) (A : gM) : Option (gM × (Nat × Nat × Nat) × Int32) :=
  g_let (g_up A 183 1 ((A 183 1) + 1)) fun A1 =>
  some (A1, (cp, k, n), ((A1 183 1) - 1))
def mX6_made_b0 (N cp k n : Nat) (A : gM) (x1 : Int32) (x2 : Int32) (x3 : Int32) (x4 : Int32) (x5 : Int32) (x6 : Int32) : Option (gM × (Nat × Nat × Nat) × Int32) :=
  if (A 183 1) = 40 then
  mX6_made_b34 N cp k n A x6
  else
  (mX6_size cp A x2).bind fun q2 =>
  (mX6_size cp q2.1 x3).bind fun q3 =>
  (mX6_size cp q3.1 x4).bind fun q4 =>
  if (((1 + q2.2) + q3.2) + q4.2) ≤ 60 then
  (mX6_put N cp q4.1 x1 x2 x3 x4 x5).bind fun q6 =>
  mX6_made_b52 N q6.2.1 (k + q6.2.2.1) (n + q6.2.2.2) q6.1
  else
  mX6_made_b34 N cp k n q4.1 x6
def mX6_made (N cp : Nat) (A : gM) (x1 : Int32) (x2 : Int32) (x3 : Int32) (x4 : Int32) (x5 : Int32) (x6 : Int32) : Option (gM × (Nat × Nat × Nat) × Int32) := mX6_made_b0 N cp 0 0 A x1 x2 x3 x4 x5 x6
set_option maxHeartbeats 2000000 in
set_option maxRecDepth 20000 in
theorem oX6_made_b34 {N : Nat} {A' : gM} {u : Nat × Nat × Nat} {r : Int32}  {cp k n : Nat} {A : gM} {x6 : Int32} (h : mX6_made_b34 N cp k n A x6 = some (A', u, r)) : k ≤ u.2.1 ∧ n ≤ u.2.2 := by
  unfold mX6_made_b34 at h
  obtain ⟨q1, eq1, h⟩ := g_bd h
  obtain ⟨rfl, h2⟩ := Prod.mk.inj (Option.some.inj h)
  obtain ⟨rfl, rfl⟩ := Prod.mk.inj h2
  exact ⟨Nat.le_refl _, Nat.le_refl _⟩

set_option maxHeartbeats 2000000 in
set_option maxRecDepth 20000 in
theorem wX6_made_b34 (hN : 193 ≤ N)  {A0 A' : gM} {u : Nat × Nat × Nat} {r : Int32} (C : gC p (g_rmx 4 u.2.1 u.2.2) s m args meth c cX6_made RX6 7 D g (va_A (gw g ad0 ln0 A0 N) s.heap.size) 4) (hr : meth.sig.returnType = some .int)  {cp k n : Nat} (hch : g_chg N ad0 ln0 ad ln cp) {A : gM} {x6 : Int32} (h : mX6_made_b34 N cp k n A x6 = some (A', u, r)) : gJ p l e (g_rmx 4 u.2.1 u.2.2) s m args below meth c (gEAi below D g N ad0 ln0 A0 A' u r args s) 7 D g (va_A (gw g ad0 ln0 A0 N) s.heap.size) N ad ln A [(0, gr 183), (6, gi x6)] k n 34 [] := by
  have hkn := oX6_made_b34 h
  unfold mX6_made_b34 at h
  refine g_aload_n C 0 dX6_made_34 rfl ?_
  refine g_iload C 1 dX6_made_35 rfl ?_
  obtain ⟨q1, eq1, h⟩ := g_bd h
  refine g_calliV C 183 [gi x6] (kX6_fail hN hch.2 eq1) qs_X6_60 (by omega) (by omega) rfl rfl rfl rfl (Nat.le_of_ble_eq_true rfl) hkn dX6_made_37 ?_
  obtain ⟨rfl, h2⟩ := Prod.mk.inj (Option.some.inj h)
  obtain ⟨rfl, rfl⟩ := Prod.mk.inj h2
  exact g_retAi C hch hr dX6_made_40

set_option maxHeartbeats 2000000 in
set_option maxRecDepth 20000 in
theorem oX6_made_b52 {N : Nat} {A' : gM} {u : Nat × Nat × Nat} {r : Int32}  {cp k n : Nat} {A : gM} (h : mX6_made_b52 N cp k n A = some (A', u, r)) : k ≤ u.2.1 ∧ n ≤ u.2.2 := by
  unfold mX6_made_b52 at h
  obtain ⟨A1, eA1, h⟩ := g_lt h
  obtain ⟨rfl, h2⟩ := Prod.mk.inj (Option.some.inj h)
  obtain ⟨rfl, rfl⟩ := Prod.mk.inj h2
  exact ⟨Nat.le_refl _, Nat.le_refl _⟩

set_option maxHeartbeats 2000000 in
set_option maxRecDepth 20000 in
theorem wX6_made_b52 (hN : 193 ≤ N)  {A0 A' : gM} {u : Nat × Nat × Nat} {r : Int32} (C : gC p (g_rmx 4 u.2.1 u.2.2) s m args meth c cX6_made RX6 7 D g (va_A (gw g ad0 ln0 A0 N) s.heap.size) 4) (hr : meth.sig.returnType = some .int)  {cp k n : Nat} (hch : g_chg N ad0 ln0 ad ln cp) {A : gM} (h : mX6_made_b52 N cp k n A = some (A', u, r)) : gJ p l e (g_rmx 4 u.2.1 u.2.2) s m args below meth c (gEAi below D g N ad0 ln0 A0 A' u r args s) 7 D g (va_A (gw g ad0 ln0 A0 N) s.heap.size) N ad ln A [(0, gr 183)] k n 52 [] := by
  have hkn := oX6_made_b52 h
  unfold mX6_made_b52 at h
  refine g_aload_n C 0 dX6_made_52 rfl ?_
  refine g_dup_r C dX6_made_53 ?_
  refine g_get (v := gi (A 183 1)) C 183 1 (by omega) rfl rfl gu_6 (by decide) qf_X6_39 rfl dX6_made_54 ?_
  refine g_iconst (v := 1) C dX6_made_57 (by decide) ?_
  refine g_iadd C dX6_made_58 ?_
  obtain ⟨A1, eA1, h⟩ := g_lt h
  refine g_put C 183 1 tyX6 tyX6_ok nmX6 (by omega) rfl rfl gu_6 (by decide) qf_X6_39 rfl (by decide +kernel) (Nat.le_of_ble_eq_true rfl) rfl eA1 dX6_made_59 ?_
  refine g_aload_n C 0 dX6_made_62 rfl ?_
  refine g_get (v := gi (A1 183 1)) C 183 1 (by omega) rfl rfl gu_6 (by decide) qf_X6_39 rfl dX6_made_63 ?_
  refine g_iconst (v := 1) C dX6_made_66 (by decide) ?_
  refine g_isub C dX6_made_67 ?_
  obtain ⟨rfl, h2⟩ := Prod.mk.inj (Option.some.inj h)
  obtain ⟨rfl, rfl⟩ := Prod.mk.inj h2
  exact g_retAi C hch hr dX6_made_68

set_option maxHeartbeats 2000000 in
set_option maxRecDepth 20000 in
theorem oX6_made_b0 {N : Nat} {A' : gM} {u : Nat × Nat × Nat} {r : Int32}  {cp k n : Nat} {A : gM} {x1 : Int32} {x2 : Int32} {x3 : Int32} {x4 : Int32} {x5 : Int32} {x6 : Int32} (h : mX6_made_b0 N cp k n A x1 x2 x3 x4 x5 x6 = some (A', u, r)) : k ≤ u.2.1 ∧ n ≤ u.2.2 := by
  unfold mX6_made_b0 at h
  by_cases c1 : (A 183 1) = 40
  · have h := g_tt c1 h
    exact oX6_made_b34 h
  · have h := g_ff c1 h
    obtain ⟨q2, eq2, h⟩ := g_bd h
    obtain ⟨q3, eq3, h⟩ := g_bd h
    obtain ⟨q4, eq4, h⟩ := g_bd h
    by_cases c5 : (((1 + q2.2) + q3.2) + q4.2) ≤ 60
    · have h := g_tt c5 h
      obtain ⟨q6, eq6, h⟩ := g_bd h
      have mo := oX6_made_b52 h
      exact ⟨by omega, by omega⟩
    · have h := g_ff c5 h
      exact oX6_made_b34 h

set_option maxHeartbeats 2000000 in
set_option maxRecDepth 20000 in
theorem wX6_made_b0 (hN : 193 ≤ N)  {A0 A' : gM} {u : Nat × Nat × Nat} {r : Int32} (C : gC p (g_rmx 4 u.2.1 u.2.2) s m args meth c cX6_made RX6 7 D g (va_A (gw g ad0 ln0 A0 N) s.heap.size) 4) (hr : meth.sig.returnType = some .int)  {cp k n : Nat} (hch : g_chg N ad0 ln0 ad ln cp) {A : gM} {x1 : Int32} {x2 : Int32} {x3 : Int32} {x4 : Int32} {x5 : Int32} {x6 : Int32} (h : mX6_made_b0 N cp k n A x1 x2 x3 x4 x5 x6 = some (A', u, r)) : gJ p l e (g_rmx 4 u.2.1 u.2.2) s m args below meth c (gEAi below D g N ad0 ln0 A0 A' u r args s) 7 D g (va_A (gw g ad0 ln0 A0 N) s.heap.size) N ad ln A [(0, gr 183), (1, gi x1), (2, gi x2), (3, gi x3), (4, gi x4), (5, gi x5), (6, gi x6)] k n 0 [] := by
  have hkn := oX6_made_b0 h
  unfold mX6_made_b0 at h
  refine g_aload_n C 0 dX6_made_0 rfl ?_
  refine g_get (v := gi (A 183 1)) C 183 1 (by omega) rfl rfl gu_6 (by decide) qf_X6_39 rfl dX6_made_1 ?_
  refine g_bipush (v := 40) C dX6_made_4 (by decide) ?_
  refine g_icmp_eq C dX6_made_6 (tgt := 34) (by decide) (fun c1 => ?_) (fun c1 => ?_)
  · have h := g_tt c1 h
    refine g_sub [0, 6] rfl ?_
    exact wX6_made_b34 hN C hr hch h
  · have h := g_ff c1 h
    refine g_iconst (v := 1) C dX6_made_9 (by decide) ?_
    refine g_aload_n C 0 dX6_made_10 rfl ?_
    refine g_iload_n C 2 dX6_made_11 rfl ?_
    obtain ⟨q2, eq2, h⟩ := g_bd h
    refine g_calliV C 183 [gi x2] (kX6_size hN hch.2 eq2) qs_X6_50 (by omega) (by omega) rfl rfl rfl rfl (Nat.le_of_ble_eq_true rfl) hkn dX6_made_12 ?_
    refine g_iadd C dX6_made_15 ?_
    refine g_aload_n C 0 dX6_made_16 rfl ?_
    refine g_iload_n C 3 dX6_made_17 rfl ?_
    obtain ⟨q3, eq3, h⟩ := g_bd h
    refine g_calliV C 183 [gi x3] (kX6_size hN hch.2 eq3) qs_X6_50 (by omega) (by omega) rfl rfl rfl rfl (Nat.le_of_ble_eq_true rfl) hkn dX6_made_18 ?_
    refine g_iadd C dX6_made_21 ?_
    refine g_aload_n C 0 dX6_made_22 rfl ?_
    refine g_iload C 4 dX6_made_23 rfl ?_
    obtain ⟨q4, eq4, h⟩ := g_bd h
    refine g_calliV C 183 [gi x4] (kX6_size hN hch.2 eq4) qs_X6_50 (by omega) (by omega) rfl rfl rfl rfl (Nat.le_of_ble_eq_true rfl) hkn dX6_made_25 ?_
    refine g_iadd C dX6_made_28 ?_
    refine g_bipush (v := 60) C dX6_made_29 (by decide) ?_
    refine g_icmp_le C dX6_made_31 (tgt := 41) (by decide) (fun c5 => ?_) (fun c5 => ?_)
    · have h := g_tt c5 h
      refine g_aload_n C 0 dX6_made_41 rfl ?_
      refine g_iload_n C 1 dX6_made_42 rfl ?_
      refine g_iload_n C 2 dX6_made_43 rfl ?_
      refine g_iload_n C 3 dX6_made_44 rfl ?_
      refine g_iload C 4 dX6_made_45 rfl ?_
      refine g_iload C 5 dX6_made_47 rfl ?_
      obtain ⟨q6, eq6, h⟩ := g_bd h
      have mo := oX6_made_b52 h
      refine g_callAvV C 183 [gi x1, gi x2, gi x3, gi x4, gi x5] (kX6_put hN hch.2 eq6) qs_X6_63 (by omega) (by omega) rfl rfl rfl rfl (Nat.le_of_ble_eq_true rfl) ⟨mo.1, mo.2⟩ (And.intro ⟨by omega, by omega⟩ True.intro) True.intro dX6_made_49 (fun ad1 ln1 hch1 => ?_)
      have hch := g_chg.trans (by omega) hch hch1
      refine g_sub [0] rfl ?_
      exact wX6_made_b52 hN C hr hch h
    · have h := g_ff c5 h
      refine g_sub [0, 6] rfl ?_
      exact wX6_made_b34 hN C hr hch h

set_option maxHeartbeats 2000000 in
set_option maxRecDepth 20000 in
theorem kX6_made {l : Launch} {D : va_G} {g : gT} {N : Nat} (hN : 193 ≤ N) {ad ln : Nat → Nat} {cp : Nat} (hcp : g_cap ln cp) {A A' : gM} {x1 : Int32} {x2 : Int32} {x3 : Int32} {x4 : Int32} {x5 : Int32} {x6 : Int32} {u : Nat × Nat × Nat} {r : Int32} (h : mX6_made N cp A x1 x2 x3 x4 x5 x6 = some (A', u, r)) : gAi l yX6_made cX6_made 7 (some .int) (4) D g N ad ln A [gr 183, gi x1, gi x2, gi x3, gi x4, gi x5, gi x6] A' u r := by
  refine g_metAi (by decide) (Nat.le_of_ble_eq_true rfl) ?_
  intro p e s m args below meth c C hr
  refine g_sub [0, 1, 2, 3, 4, 5, 6] rfl ?_
  exact wX6_made_b0 hN C hr (g_chg.rf hcp) h
def mX6_plain_b32 (N cp k n : Nat) (A : gM) (s0 : Int32) : Option (gM × (Nat × Nat × Nat) × Int32) :=
  some (A, (cp, k, n), s0)
def mX6_plain_b24 (N cp k n : Nat) (A : gM) (s0 : Int32) : Option (gM × (Nat × Nat × Nat) × Int32) :=
  mX6_plain_b32 N cp k n A s0
def mX6_plain_b0 (N cp k n : Nat) (A : gM) (x1 : Int32) : Option (gM × (Nat × Nat × Nat) × Int32) :=
  g_let (g_up A 183 0 0) fun A1 =>
  (mX6_isIn cp A1 x1 0 1).bind fun q2 =>
  if q2.2 = 0 then
  (mX6_fail cp q2.1 1).bind fun q4 =>
  mX6_plain_b32 N cp k n q4.1 q4.2
  else
  (mX6_made N cp q2.1 x1 (-1) (-1) (-1) (-1) 2).bind fun q5 =>
  mX6_plain_b24 N q5.2.1.1 (k + q5.2.1.2.1) (n + q5.2.1.2.2) q5.1 q5.2.2
def mX6_plain (N cp : Nat) (A : gM) (x1 : Int32) : Option (gM × (Nat × Nat × Nat) × Int32) := mX6_plain_b0 N cp 0 0 A x1
set_option maxHeartbeats 2000000 in
set_option maxRecDepth 20000 in
theorem oX6_plain_b32 {N : Nat} {A' : gM} {u : Nat × Nat × Nat} {r : Int32}  {cp k n : Nat} {A : gM} {s0 : Int32} (h : mX6_plain_b32 N cp k n A s0 = some (A', u, r)) : k ≤ u.2.1 ∧ n ≤ u.2.2 := by
  unfold mX6_plain_b32 at h
  obtain ⟨rfl, h2⟩ := Prod.mk.inj (Option.some.inj h)
  obtain ⟨rfl, rfl⟩ := Prod.mk.inj h2
  exact ⟨Nat.le_refl _, Nat.le_refl _⟩

set_option maxHeartbeats 2000000 in
set_option maxRecDepth 20000 in
theorem wX6_plain_b32 (hN : 193 ≤ N)  {A0 A' : gM} {u : Nat × Nat × Nat} {r : Int32} (C : gC p (g_rmx 5 u.2.1 u.2.2) s m args meth c cX6_plain RX6 2 D g (va_A (gw g ad0 ln0 A0 N) s.heap.size) 5) (hr : meth.sig.returnType = some .int)  {cp k n : Nat} (hch : g_chg N ad0 ln0 ad ln cp) {A : gM} {s0 : Int32} (h : mX6_plain_b32 N cp k n A s0 = some (A', u, r)) : gJ p l e (g_rmx 5 u.2.1 u.2.2) s m args below meth c (gEAi below D g N ad0 ln0 A0 A' u r args s) 2 D g (va_A (gw g ad0 ln0 A0 N) s.heap.size) N ad ln A [] k n 32 [gi s0] := by
  have hkn := oX6_plain_b32 h
  unfold mX6_plain_b32 at h
  obtain ⟨rfl, h2⟩ := Prod.mk.inj (Option.some.inj h)
  obtain ⟨rfl, rfl⟩ := Prod.mk.inj h2
  exact g_retAi C hch hr dX6_plain_32

set_option maxHeartbeats 2000000 in
set_option maxRecDepth 20000 in
theorem oX6_plain_b24 {N : Nat} {A' : gM} {u : Nat × Nat × Nat} {r : Int32}  {cp k n : Nat} {A : gM} {s0 : Int32} (h : mX6_plain_b24 N cp k n A s0 = some (A', u, r)) : k ≤ u.2.1 ∧ n ≤ u.2.2 := by
  unfold mX6_plain_b24 at h
  exact oX6_plain_b32 h

set_option maxHeartbeats 2000000 in
set_option maxRecDepth 20000 in
theorem wX6_plain_b24 (hN : 193 ≤ N)  {A0 A' : gM} {u : Nat × Nat × Nat} {r : Int32} (C : gC p (g_rmx 5 u.2.1 u.2.2) s m args meth c cX6_plain RX6 2 D g (va_A (gw g ad0 ln0 A0 N) s.heap.size) 5) (hr : meth.sig.returnType = some .int)  {cp k n : Nat} (hch : g_chg N ad0 ln0 ad ln cp) {A : gM} {s0 : Int32} (h : mX6_plain_b24 N cp k n A s0 = some (A', u, r)) : gJ p l e (g_rmx 5 u.2.1 u.2.2) s m args below meth c (gEAi below D g N ad0 ln0 A0 A' u r args s) 2 D g (va_A (gw g ad0 ln0 A0 N) s.heap.size) N ad ln A [] k n 24 [gi s0] := by
  have hkn := oX6_plain_b24 h
  unfold mX6_plain_b24 at h
  refine g_goto C dX6_plain_24 (tgt := 32) (by decide) ?_
  refine g_sub [] rfl ?_
  exact wX6_plain_b32 hN C hr hch h

set_option maxHeartbeats 2000000 in
set_option maxRecDepth 20000 in
theorem oX6_plain_b0 {N : Nat} {A' : gM} {u : Nat × Nat × Nat} {r : Int32}  {cp k n : Nat} {A : gM} {x1 : Int32} (h : mX6_plain_b0 N cp k n A x1 = some (A', u, r)) : k ≤ u.2.1 ∧ n ≤ u.2.2 := by
  unfold mX6_plain_b0 at h
  obtain ⟨A1, eA1, h⟩ := g_lt h
  obtain ⟨q2, eq2, h⟩ := g_bd h
  by_cases c3 : q2.2 = 0
  · have h := g_tt c3 h
    obtain ⟨q4, eq4, h⟩ := g_bd h
    exact oX6_plain_b32 h
  · have h := g_ff c3 h
    obtain ⟨q5, eq5, h⟩ := g_bd h
    have mo := oX6_plain_b24 h
    exact ⟨by omega, by omega⟩

set_option maxHeartbeats 2000000 in
set_option maxRecDepth 20000 in
theorem wX6_plain_b0 (hN : 193 ≤ N)  {A0 A' : gM} {u : Nat × Nat × Nat} {r : Int32} (C : gC p (g_rmx 5 u.2.1 u.2.2) s m args meth c cX6_plain RX6 2 D g (va_A (gw g ad0 ln0 A0 N) s.heap.size) 5) (hr : meth.sig.returnType = some .int)  {cp k n : Nat} (hch : g_chg N ad0 ln0 ad ln cp) {A : gM} {x1 : Int32} (h : mX6_plain_b0 N cp k n A x1 = some (A', u, r)) : gJ p l e (g_rmx 5 u.2.1 u.2.2) s m args below meth c (gEAi below D g N ad0 ln0 A0 A' u r args s) 2 D g (va_A (gw g ad0 ln0 A0 N) s.heap.size) N ad ln A [(0, gr 183), (1, gi x1)] k n 0 [] := by
  have hkn := oX6_plain_b0 h
  unfold mX6_plain_b0 at h
  refine g_aload_n C 0 dX6_plain_0 rfl ?_
  refine g_iconst (v := 0) C dX6_plain_1 (by decide) ?_
  obtain ⟨A1, eA1, h⟩ := g_lt h
  refine g_put C 183 0 tyX6 tyX6_ok nmX6 (by omega) rfl rfl gu_6 (by decide) qf_X6_35 rfl (by decide +kernel) (Nat.le_of_ble_eq_true rfl) rfl eA1 dX6_plain_2 ?_
  refine g_iload_n C 1 dX6_plain_5 rfl ?_
  refine g_iconst (v := 0) C dX6_plain_6 (by decide) ?_
  refine g_iconst (v := 1) C dX6_plain_7 (by decide) ?_
  obtain ⟨q2, eq2, h⟩ := g_bd h
  refine g_calliS C [gi x1, gi 0, gi 1] (kX6_isIn hN hch.2 eq2) qs_X6_42 (by omega) rfl rfl (Nat.le_of_ble_eq_true rfl) hkn dX6_plain_8 ?_
  refine g_if_eq C dX6_plain_11 (tgt := 27) (by decide) (fun c3 => ?_) (fun c3 => ?_)
  · have h := g_tt c3 h
    refine g_aload_n C 0 dX6_plain_27 rfl ?_
    refine g_iconst (v := 1) C dX6_plain_28 (by decide) ?_
    obtain ⟨q4, eq4, h⟩ := g_bd h
    refine g_calliV C 183 [gi 1] (kX6_fail hN hch.2 eq4) qs_X6_60 (by omega) (by omega) rfl rfl rfl rfl (Nat.le_of_ble_eq_true rfl) hkn dX6_plain_29 ?_
    refine g_sub [] rfl ?_
    exact wX6_plain_b32 hN C hr hch h
  · have h := g_ff c3 h
    refine g_aload_n C 0 dX6_plain_14 rfl ?_
    refine g_iload_n C 1 dX6_plain_15 rfl ?_
    refine g_iconst (v := (-1)) C dX6_plain_16 (by decide) ?_
    refine g_iconst (v := (-1)) C dX6_plain_17 (by decide) ?_
    refine g_iconst (v := (-1)) C dX6_plain_18 (by decide) ?_
    refine g_iconst (v := (-1)) C dX6_plain_19 (by decide) ?_
    refine g_iconst (v := 2) C dX6_plain_20 (by decide) ?_
    obtain ⟨q5, eq5, h⟩ := g_bd h
    have mo := oX6_plain_b24 h
    refine g_callAiV C 183 [gi x1, gi (-1), gi (-1), gi (-1), gi (-1), gi 2] (kX6_made hN hch.2 eq5) qs_X6_67 (by omega) (by omega) rfl rfl rfl rfl (Nat.le_of_ble_eq_true rfl) ⟨mo.1, mo.2⟩ (And.intro ⟨by omega, by omega⟩ True.intro) True.intro dX6_plain_21 (fun ad1 ln1 hch1 => ?_)
    have hch := g_chg.trans (by omega) hch hch1
    refine g_sub [] rfl ?_
    exact wX6_plain_b24 hN C hr hch h

set_option maxHeartbeats 2000000 in
set_option maxRecDepth 20000 in
theorem kX6_plain {l : Launch} {D : va_G} {g : gT} {N : Nat} (hN : 193 ≤ N) {ad ln : Nat → Nat} {cp : Nat} (hcp : g_cap ln cp) {A A' : gM} {x1 : Int32} {u : Nat × Nat × Nat} {r : Int32} (h : mX6_plain N cp A x1 = some (A', u, r)) : gAi l yX6_plain cX6_plain 2 (some .int) (5) D g N ad ln A [gr 183, gi x1] A' u r := by
  refine g_metAi (by decide) (Nat.le_of_ble_eq_true rfl) ?_
  intro p e s m args below meth c C hr
  refine g_sub [0, 1] rfl ?_
  exact wX6_plain_b0 hN C hr (g_chg.rf hcp) h
def mX6_name_b30 (N cp k n : Nat) (A : gM) (s0 : Int32) : Option (gM × (Nat × Nat × Nat) × Int32) :=
  some (A, (cp, k, n), s0)
def mX6_name_b22 (N cp k n : Nat) (A : gM) (s0 : Int32) : Option (gM × (Nat × Nat × Nat) × Int32) :=
  mX6_name_b30 N cp k n A s0
def mX6_name_b0 (N cp k n : Nat) (A : gM) (x1 : Int32) : Option (gM × (Nat × Nat × Nat) × Int32) :=
  g_let (g_up A 183 0 0) fun A1 =>
  (mX6_isName cp A1 x1).bind fun q2 =>
  if q2.2 = 0 then
  (mX6_fail cp q2.1 1).bind fun q4 =>
  mX6_name_b30 N cp k n q4.1 q4.2
  else
  (mX6_made N cp q2.1 2 (-1) (-1) (-1) x1 2).bind fun q5 =>
  mX6_name_b22 N q5.2.1.1 (k + q5.2.1.2.1) (n + q5.2.1.2.2) q5.1 q5.2.2
def mX6_name (N cp : Nat) (A : gM) (x1 : Int32) : Option (gM × (Nat × Nat × Nat) × Int32) := mX6_name_b0 N cp 0 0 A x1
set_option maxHeartbeats 2000000 in
set_option maxRecDepth 20000 in
theorem oX6_name_b30 {N : Nat} {A' : gM} {u : Nat × Nat × Nat} {r : Int32}  {cp k n : Nat} {A : gM} {s0 : Int32} (h : mX6_name_b30 N cp k n A s0 = some (A', u, r)) : k ≤ u.2.1 ∧ n ≤ u.2.2 := by
  unfold mX6_name_b30 at h
  obtain ⟨rfl, h2⟩ := Prod.mk.inj (Option.some.inj h)
  obtain ⟨rfl, rfl⟩ := Prod.mk.inj h2
  exact ⟨Nat.le_refl _, Nat.le_refl _⟩

set_option maxHeartbeats 2000000 in
set_option maxRecDepth 20000 in
theorem wX6_name_b30 (hN : 193 ≤ N)  {A0 A' : gM} {u : Nat × Nat × Nat} {r : Int32} (C : gC p (g_rmx 5 u.2.1 u.2.2) s m args meth c cX6_name RX6 2 D g (va_A (gw g ad0 ln0 A0 N) s.heap.size) 5) (hr : meth.sig.returnType = some .int)  {cp k n : Nat} (hch : g_chg N ad0 ln0 ad ln cp) {A : gM} {s0 : Int32} (h : mX6_name_b30 N cp k n A s0 = some (A', u, r)) : gJ p l e (g_rmx 5 u.2.1 u.2.2) s m args below meth c (gEAi below D g N ad0 ln0 A0 A' u r args s) 2 D g (va_A (gw g ad0 ln0 A0 N) s.heap.size) N ad ln A [] k n 30 [gi s0] := by
  have hkn := oX6_name_b30 h
  unfold mX6_name_b30 at h
  obtain ⟨rfl, h2⟩ := Prod.mk.inj (Option.some.inj h)
  obtain ⟨rfl, rfl⟩ := Prod.mk.inj h2
  exact g_retAi C hch hr dX6_name_30

set_option maxHeartbeats 2000000 in
set_option maxRecDepth 20000 in
theorem oX6_name_b22 {N : Nat} {A' : gM} {u : Nat × Nat × Nat} {r : Int32}  {cp k n : Nat} {A : gM} {s0 : Int32} (h : mX6_name_b22 N cp k n A s0 = some (A', u, r)) : k ≤ u.2.1 ∧ n ≤ u.2.2 := by
  unfold mX6_name_b22 at h
  exact oX6_name_b30 h

set_option maxHeartbeats 2000000 in
set_option maxRecDepth 20000 in
theorem wX6_name_b22 (hN : 193 ≤ N)  {A0 A' : gM} {u : Nat × Nat × Nat} {r : Int32} (C : gC p (g_rmx 5 u.2.1 u.2.2) s m args meth c cX6_name RX6 2 D g (va_A (gw g ad0 ln0 A0 N) s.heap.size) 5) (hr : meth.sig.returnType = some .int)  {cp k n : Nat} (hch : g_chg N ad0 ln0 ad ln cp) {A : gM} {s0 : Int32} (h : mX6_name_b22 N cp k n A s0 = some (A', u, r)) : gJ p l e (g_rmx 5 u.2.1 u.2.2) s m args below meth c (gEAi below D g N ad0 ln0 A0 A' u r args s) 2 D g (va_A (gw g ad0 ln0 A0 N) s.heap.size) N ad ln A [] k n 22 [gi s0] := by
  have hkn := oX6_name_b22 h
  unfold mX6_name_b22 at h
  refine g_goto C dX6_name_22 (tgt := 30) (by decide) ?_
  refine g_sub [] rfl ?_
  exact wX6_name_b30 hN C hr hch h

set_option maxHeartbeats 2000000 in
set_option maxRecDepth 20000 in
theorem oX6_name_b0 {N : Nat} {A' : gM} {u : Nat × Nat × Nat} {r : Int32}  {cp k n : Nat} {A : gM} {x1 : Int32} (h : mX6_name_b0 N cp k n A x1 = some (A', u, r)) : k ≤ u.2.1 ∧ n ≤ u.2.2 := by
  unfold mX6_name_b0 at h
  obtain ⟨A1, eA1, h⟩ := g_lt h
  obtain ⟨q2, eq2, h⟩ := g_bd h
  by_cases c3 : q2.2 = 0
  · have h := g_tt c3 h
    obtain ⟨q4, eq4, h⟩ := g_bd h
    exact oX6_name_b30 h
  · have h := g_ff c3 h
    obtain ⟨q5, eq5, h⟩ := g_bd h
    have mo := oX6_name_b22 h
    exact ⟨by omega, by omega⟩

set_option maxHeartbeats 2000000 in
set_option maxRecDepth 20000 in
theorem wX6_name_b0 (hN : 193 ≤ N)  {A0 A' : gM} {u : Nat × Nat × Nat} {r : Int32} (C : gC p (g_rmx 5 u.2.1 u.2.2) s m args meth c cX6_name RX6 2 D g (va_A (gw g ad0 ln0 A0 N) s.heap.size) 5) (hr : meth.sig.returnType = some .int)  {cp k n : Nat} (hch : g_chg N ad0 ln0 ad ln cp) {A : gM} {x1 : Int32} (h : mX6_name_b0 N cp k n A x1 = some (A', u, r)) : gJ p l e (g_rmx 5 u.2.1 u.2.2) s m args below meth c (gEAi below D g N ad0 ln0 A0 A' u r args s) 2 D g (va_A (gw g ad0 ln0 A0 N) s.heap.size) N ad ln A [(0, gr 183), (1, gi x1)] k n 0 [] := by
  have hkn := oX6_name_b0 h
  unfold mX6_name_b0 at h
  refine g_aload_n C 0 dX6_name_0 rfl ?_
  refine g_iconst (v := 0) C dX6_name_1 (by decide) ?_
  obtain ⟨A1, eA1, h⟩ := g_lt h
  refine g_put C 183 0 tyX6 tyX6_ok nmX6 (by omega) rfl rfl gu_6 (by decide) qf_X6_35 rfl (by decide +kernel) (Nat.le_of_ble_eq_true rfl) rfl eA1 dX6_name_2 ?_
  refine g_iload_n C 1 dX6_name_5 rfl ?_
  obtain ⟨q2, eq2, h⟩ := g_bd h
  refine g_calliS C [gi x1] (kX6_isName hN hch.2 eq2) qs_X6_71 (by omega) rfl rfl (Nat.le_of_ble_eq_true rfl) hkn dX6_name_6 ?_
  refine g_if_eq C dX6_name_9 (tgt := 25) (by decide) (fun c3 => ?_) (fun c3 => ?_)
  · have h := g_tt c3 h
    refine g_aload_n C 0 dX6_name_25 rfl ?_
    refine g_iconst (v := 1) C dX6_name_26 (by decide) ?_
    obtain ⟨q4, eq4, h⟩ := g_bd h
    refine g_calliV C 183 [gi 1] (kX6_fail hN hch.2 eq4) qs_X6_60 (by omega) (by omega) rfl rfl rfl rfl (Nat.le_of_ble_eq_true rfl) hkn dX6_name_27 ?_
    refine g_sub [] rfl ?_
    exact wX6_name_b30 hN C hr hch h
  · have h := g_ff c3 h
    refine g_aload_n C 0 dX6_name_12 rfl ?_
    refine g_iconst (v := 2) C dX6_name_13 (by decide) ?_
    refine g_iconst (v := (-1)) C dX6_name_14 (by decide) ?_
    refine g_iconst (v := (-1)) C dX6_name_15 (by decide) ?_
    refine g_iconst (v := (-1)) C dX6_name_16 (by decide) ?_
    refine g_iload_n C 1 dX6_name_17 rfl ?_
    refine g_iconst (v := 2) C dX6_name_18 (by decide) ?_
    obtain ⟨q5, eq5, h⟩ := g_bd h
    have mo := oX6_name_b22 h
    refine g_callAiV C 183 [gi 2, gi (-1), gi (-1), gi (-1), gi x1, gi 2] (kX6_made hN hch.2 eq5) qs_X6_67 (by omega) (by omega) rfl rfl rfl rfl (Nat.le_of_ble_eq_true rfl) ⟨mo.1, mo.2⟩ (And.intro ⟨by omega, by omega⟩ True.intro) True.intro dX6_name_19 (fun ad1 ln1 hch1 => ?_)
    have hch := g_chg.trans (by omega) hch hch1
    refine g_sub [] rfl ?_
    exact wX6_name_b22 hN C hr hch h

set_option maxHeartbeats 2000000 in
set_option maxRecDepth 20000 in
theorem kX6_name {l : Launch} {D : va_G} {g : gT} {N : Nat} (hN : 193 ≤ N) {ad ln : Nat → Nat} {cp : Nat} (hcp : g_cap ln cp) {A A' : gM} {x1 : Int32} {u : Nat × Nat × Nat} {r : Int32} (h : mX6_name N cp A x1 = some (A', u, r)) : gAi l yX6_name cX6_name 2 (some .int) (5) D g N ad ln A [gr 183, gi x1] A' u r := by
  refine g_metAi (by decide) (Nat.le_of_ble_eq_true rfl) ?_
  intro p e s m args below meth c C hr
  refine g_sub [0, 1] rfl ?_
  exact wX6_name_b0 hN C hr (g_chg.rf hcp) h
def mX6_wheel_b44 (N cp k n : Nat) (A : gM) (s0 : Int32) : Option (gM × (Nat × Nat × Nat) × Int32) :=
  some (A, (cp, k, n), s0)
def mX6_wheel_b36 (N cp k n : Nat) (A : gM) (s0 : Int32) : Option (gM × (Nat × Nat × Nat) × Int32) :=
  mX6_wheel_b44 N cp k n A s0
def mX6_wheel_b0 (N cp k n : Nat) (A : gM) (x1 : Int32) (x2 : Int32) : Option (gM × (Nat × Nat × Nat) × Int32) :=
  g_let (g_up A 183 0 0) fun A1 =>
  (mX6_isPart cp A1 x2).bind fun q2 =>
  if q2.2 = 0 then
  (mX6_fail cp q2.1 1).bind fun q8 =>
  some (q8.1, (cp, k, n), q8.2)
  else
  (mX6_isName cp q2.1 x1).bind fun q4 =>
  if q4.2 = 0 then
  (mX6_fail cp q4.1 2).bind fun q6 =>
  mX6_wheel_b44 N cp k n q6.1 q6.2
  else
  (mX6_made N cp q4.1 3 x2 (-1) (-1) x1 3).bind fun q7 =>
  mX6_wheel_b36 N q7.2.1.1 (k + q7.2.1.2.1) (n + q7.2.1.2.2) q7.1 q7.2.2
def mX6_wheel (N cp : Nat) (A : gM) (x1 : Int32) (x2 : Int32) : Option (gM × (Nat × Nat × Nat) × Int32) := mX6_wheel_b0 N cp 0 0 A x1 x2
set_option maxHeartbeats 2000000 in
set_option maxRecDepth 20000 in
theorem oX6_wheel_b44 {N : Nat} {A' : gM} {u : Nat × Nat × Nat} {r : Int32}  {cp k n : Nat} {A : gM} {s0 : Int32} (h : mX6_wheel_b44 N cp k n A s0 = some (A', u, r)) : k ≤ u.2.1 ∧ n ≤ u.2.2 := by
  unfold mX6_wheel_b44 at h
  obtain ⟨rfl, h2⟩ := Prod.mk.inj (Option.some.inj h)
  obtain ⟨rfl, rfl⟩ := Prod.mk.inj h2
  exact ⟨Nat.le_refl _, Nat.le_refl _⟩

set_option maxHeartbeats 2000000 in
set_option maxRecDepth 20000 in
theorem wX6_wheel_b44 (hN : 193 ≤ N)  {A0 A' : gM} {u : Nat × Nat × Nat} {r : Int32} (C : gC p (g_rmx 5 u.2.1 u.2.2) s m args meth c cX6_wheel RX6 3 D g (va_A (gw g ad0 ln0 A0 N) s.heap.size) 5) (hr : meth.sig.returnType = some .int)  {cp k n : Nat} (hch : g_chg N ad0 ln0 ad ln cp) {A : gM} {s0 : Int32} (h : mX6_wheel_b44 N cp k n A s0 = some (A', u, r)) : gJ p l e (g_rmx 5 u.2.1 u.2.2) s m args below meth c (gEAi below D g N ad0 ln0 A0 A' u r args s) 3 D g (va_A (gw g ad0 ln0 A0 N) s.heap.size) N ad ln A [] k n 44 [gi s0] := by
  have hkn := oX6_wheel_b44 h
  unfold mX6_wheel_b44 at h
  obtain ⟨rfl, h2⟩ := Prod.mk.inj (Option.some.inj h)
  obtain ⟨rfl, rfl⟩ := Prod.mk.inj h2
  exact g_retAi C hch hr dX6_wheel_44

set_option maxHeartbeats 2000000 in
set_option maxRecDepth 20000 in
theorem oX6_wheel_b36 {N : Nat} {A' : gM} {u : Nat × Nat × Nat} {r : Int32}  {cp k n : Nat} {A : gM} {s0 : Int32} (h : mX6_wheel_b36 N cp k n A s0 = some (A', u, r)) : k ≤ u.2.1 ∧ n ≤ u.2.2 := by
  unfold mX6_wheel_b36 at h
  exact oX6_wheel_b44 h

set_option maxHeartbeats 2000000 in
set_option maxRecDepth 20000 in
theorem wX6_wheel_b36 (hN : 193 ≤ N)  {A0 A' : gM} {u : Nat × Nat × Nat} {r : Int32} (C : gC p (g_rmx 5 u.2.1 u.2.2) s m args meth c cX6_wheel RX6 3 D g (va_A (gw g ad0 ln0 A0 N) s.heap.size) 5) (hr : meth.sig.returnType = some .int)  {cp k n : Nat} (hch : g_chg N ad0 ln0 ad ln cp) {A : gM} {s0 : Int32} (h : mX6_wheel_b36 N cp k n A s0 = some (A', u, r)) : gJ p l e (g_rmx 5 u.2.1 u.2.2) s m args below meth c (gEAi below D g N ad0 ln0 A0 A' u r args s) 3 D g (va_A (gw g ad0 ln0 A0 N) s.heap.size) N ad ln A [] k n 36 [gi s0] := by
  have hkn := oX6_wheel_b36 h
  unfold mX6_wheel_b36 at h
  refine g_goto C dX6_wheel_36 (tgt := 44) (by decide) ?_
  refine g_sub [] rfl ?_
  exact wX6_wheel_b44 hN C hr hch h

set_option maxHeartbeats 2000000 in
set_option maxRecDepth 20000 in
theorem oX6_wheel_b0 {N : Nat} {A' : gM} {u : Nat × Nat × Nat} {r : Int32}  {cp k n : Nat} {A : gM} {x1 : Int32} {x2 : Int32} (h : mX6_wheel_b0 N cp k n A x1 x2 = some (A', u, r)) : k ≤ u.2.1 ∧ n ≤ u.2.2 := by
  unfold mX6_wheel_b0 at h
  obtain ⟨A1, eA1, h⟩ := g_lt h
  obtain ⟨q2, eq2, h⟩ := g_bd h
  by_cases c3 : q2.2 = 0
  · have h := g_tt c3 h
    obtain ⟨q8, eq8, h⟩ := g_bd h
    obtain ⟨rfl, h2⟩ := Prod.mk.inj (Option.some.inj h)
    obtain ⟨rfl, rfl⟩ := Prod.mk.inj h2
    exact ⟨Nat.le_refl _, Nat.le_refl _⟩
  · have h := g_ff c3 h
    obtain ⟨q4, eq4, h⟩ := g_bd h
    by_cases c5 : q4.2 = 0
    · have h := g_tt c5 h
      obtain ⟨q6, eq6, h⟩ := g_bd h
      exact oX6_wheel_b44 h
    · have h := g_ff c5 h
      obtain ⟨q7, eq7, h⟩ := g_bd h
      have mo := oX6_wheel_b36 h
      exact ⟨by omega, by omega⟩

set_option maxHeartbeats 2000000 in
set_option maxRecDepth 20000 in
theorem wX6_wheel_b0 (hN : 193 ≤ N)  {A0 A' : gM} {u : Nat × Nat × Nat} {r : Int32} (C : gC p (g_rmx 5 u.2.1 u.2.2) s m args meth c cX6_wheel RX6 3 D g (va_A (gw g ad0 ln0 A0 N) s.heap.size) 5) (hr : meth.sig.returnType = some .int)  {cp k n : Nat} (hch : g_chg N ad0 ln0 ad ln cp) {A : gM} {x1 : Int32} {x2 : Int32} (h : mX6_wheel_b0 N cp k n A x1 x2 = some (A', u, r)) : gJ p l e (g_rmx 5 u.2.1 u.2.2) s m args below meth c (gEAi below D g N ad0 ln0 A0 A' u r args s) 3 D g (va_A (gw g ad0 ln0 A0 N) s.heap.size) N ad ln A [(0, gr 183), (1, gi x1), (2, gi x2)] k n 0 [] := by
  have hkn := oX6_wheel_b0 h
  unfold mX6_wheel_b0 at h
  refine g_aload_n C 0 dX6_wheel_0 rfl ?_
  refine g_iconst (v := 0) C dX6_wheel_1 (by decide) ?_
  obtain ⟨A1, eA1, h⟩ := g_lt h
  refine g_put C 183 0 tyX6 tyX6_ok nmX6 (by omega) rfl rfl gu_6 (by decide) qf_X6_35 rfl (by decide +kernel) (Nat.le_of_ble_eq_true rfl) rfl eA1 dX6_wheel_2 ?_
  refine g_aload_n C 0 dX6_wheel_5 rfl ?_
  refine g_iload_n C 2 dX6_wheel_6 rfl ?_
  obtain ⟨q2, eq2, h⟩ := g_bd h
  refine g_calliV C 183 [gi x2] (kX6_isPart hN hch.2 eq2) qs_X6_75 (by omega) (by omega) rfl rfl rfl rfl (Nat.le_of_ble_eq_true rfl) hkn dX6_wheel_7 ?_
  refine g_if_ne C dX6_wheel_10 (tgt := 19) (by decide) (fun c3 => ?_) (fun c3 => ?_)
  · have h := g_ff c3 h
    refine g_iload_n C 1 dX6_wheel_19 rfl ?_
    obtain ⟨q4, eq4, h⟩ := g_bd h
    refine g_calliS C [gi x1] (kX6_isName hN hch.2 eq4) qs_X6_71 (by omega) rfl rfl (Nat.le_of_ble_eq_true rfl) hkn dX6_wheel_20 ?_
    refine g_if_eq C dX6_wheel_23 (tgt := 39) (by decide) (fun c5 => ?_) (fun c5 => ?_)
    · have h := g_tt c5 h
      refine g_aload_n C 0 dX6_wheel_39 rfl ?_
      refine g_iconst (v := 2) C dX6_wheel_40 (by decide) ?_
      obtain ⟨q6, eq6, h⟩ := g_bd h
      refine g_calliV C 183 [gi 2] (kX6_fail hN hch.2 eq6) qs_X6_60 (by omega) (by omega) rfl rfl rfl rfl (Nat.le_of_ble_eq_true rfl) hkn dX6_wheel_41 ?_
      refine g_sub [] rfl ?_
      exact wX6_wheel_b44 hN C hr hch h
    · have h := g_ff c5 h
      refine g_aload_n C 0 dX6_wheel_26 rfl ?_
      refine g_iconst (v := 3) C dX6_wheel_27 (by decide) ?_
      refine g_iload_n C 2 dX6_wheel_28 rfl ?_
      refine g_iconst (v := (-1)) C dX6_wheel_29 (by decide) ?_
      refine g_iconst (v := (-1)) C dX6_wheel_30 (by decide) ?_
      refine g_iload_n C 1 dX6_wheel_31 rfl ?_
      refine g_iconst (v := 3) C dX6_wheel_32 (by decide) ?_
      obtain ⟨q7, eq7, h⟩ := g_bd h
      have mo := oX6_wheel_b36 h
      refine g_callAiV C 183 [gi 3, gi x2, gi (-1), gi (-1), gi x1, gi 3] (kX6_made hN hch.2 eq7) qs_X6_67 (by omega) (by omega) rfl rfl rfl rfl (Nat.le_of_ble_eq_true rfl) ⟨mo.1, mo.2⟩ (And.intro ⟨by omega, by omega⟩ True.intro) True.intro dX6_wheel_33 (fun ad1 ln1 hch1 => ?_)
      have hch := g_chg.trans (by omega) hch hch1
      refine g_sub [] rfl ?_
      exact wX6_wheel_b36 hN C hr hch h
  · have h := g_tt c3 h
    refine g_aload_n C 0 dX6_wheel_13 rfl ?_
    refine g_iconst (v := 1) C dX6_wheel_14 (by decide) ?_
    obtain ⟨q8, eq8, h⟩ := g_bd h
    refine g_calliV C 183 [gi 1] (kX6_fail hN hch.2 eq8) qs_X6_60 (by omega) (by omega) rfl rfl rfl rfl (Nat.le_of_ble_eq_true rfl) hkn dX6_wheel_15 ?_
    obtain ⟨rfl, h2⟩ := Prod.mk.inj (Option.some.inj h)
    obtain ⟨rfl, rfl⟩ := Prod.mk.inj h2
    exact g_retAi C hch hr dX6_wheel_18

set_option maxHeartbeats 2000000 in
set_option maxRecDepth 20000 in
theorem kX6_wheel {l : Launch} {D : va_G} {g : gT} {N : Nat} (hN : 193 ≤ N) {ad ln : Nat → Nat} {cp : Nat} (hcp : g_cap ln cp) {A A' : gM} {x1 : Int32} {x2 : Int32} {u : Nat × Nat × Nat} {r : Int32} (h : mX6_wheel N cp A x1 x2 = some (A', u, r)) : gAi l yX6_wheel cX6_wheel 3 (some .int) (5) D g N ad ln A [gr 183, gi x1, gi x2] A' u r := by
  refine g_metAi (by decide) (Nat.le_of_ble_eq_true rfl) ?_
  intro p e s m args below meth c C hr
  refine g_sub [0, 1, 2] rfl ?_
  exact wX6_wheel_b0 hN C hr (g_chg.rf hcp) h
def mX6_turn_b39 (N cp k n : Nat) (A : gM) (s0 : Int32) : Option (gM × (Nat × Nat × Nat) × Int32) :=
  some (A, (cp, k, n), s0)
def mX6_turn_b34 (N cp k n : Nat) (A : gM) : Option (gM × (Nat × Nat × Nat) × Int32) :=
  (mX6_fail cp A 1).bind fun q1 =>
  mX6_turn_b39 N cp k n q1.1 q1.2
def mX6_turn_b31 (N cp k n : Nat) (A : gM) (s0 : Int32) : Option (gM × (Nat × Nat × Nat) × Int32) :=
  mX6_turn_b39 N cp k n A s0
def mX6_turn_b0 (N cp k n : Nat) (A : gM) (x1 : Int32) (x2 : Int32) : Option (gM × (Nat × Nat × Nat) × Int32) :=
  g_let (g_up A 183 0 0) fun A1 =>
  (mX6_isPart cp A1 x1).bind fun q2 =>
  if q2.2 = 0 then
  mX6_turn_b34 N cp k n q2.1
  else
  (mX6_isPart cp q2.1 x2).bind fun q4 =>
  if q4.2 = 0 then
  mX6_turn_b34 N cp k n q4.1
  else
  (mX6_made N cp q4.1 4 x1 x2 (-1) (-1) 2).bind fun q6 =>
  mX6_turn_b31 N q6.2.1.1 (k + q6.2.1.2.1) (n + q6.2.1.2.2) q6.1 q6.2.2
def mX6_turn (N cp : Nat) (A : gM) (x1 : Int32) (x2 : Int32) : Option (gM × (Nat × Nat × Nat) × Int32) := mX6_turn_b0 N cp 0 0 A x1 x2
set_option maxHeartbeats 2000000 in
set_option maxRecDepth 20000 in
theorem oX6_turn_b39 {N : Nat} {A' : gM} {u : Nat × Nat × Nat} {r : Int32}  {cp k n : Nat} {A : gM} {s0 : Int32} (h : mX6_turn_b39 N cp k n A s0 = some (A', u, r)) : k ≤ u.2.1 ∧ n ≤ u.2.2 := by
  unfold mX6_turn_b39 at h
  obtain ⟨rfl, h2⟩ := Prod.mk.inj (Option.some.inj h)
  obtain ⟨rfl, rfl⟩ := Prod.mk.inj h2
  exact ⟨Nat.le_refl _, Nat.le_refl _⟩

set_option maxHeartbeats 2000000 in
set_option maxRecDepth 20000 in
theorem wX6_turn_b39 (hN : 193 ≤ N)  {A0 A' : gM} {u : Nat × Nat × Nat} {r : Int32} (C : gC p (g_rmx 5 u.2.1 u.2.2) s m args meth c cX6_turn RX6 3 D g (va_A (gw g ad0 ln0 A0 N) s.heap.size) 5) (hr : meth.sig.returnType = some .int)  {cp k n : Nat} (hch : g_chg N ad0 ln0 ad ln cp) {A : gM} {s0 : Int32} (h : mX6_turn_b39 N cp k n A s0 = some (A', u, r)) : gJ p l e (g_rmx 5 u.2.1 u.2.2) s m args below meth c (gEAi below D g N ad0 ln0 A0 A' u r args s) 3 D g (va_A (gw g ad0 ln0 A0 N) s.heap.size) N ad ln A [] k n 39 [gi s0] := by
  have hkn := oX6_turn_b39 h
  unfold mX6_turn_b39 at h
  obtain ⟨rfl, h2⟩ := Prod.mk.inj (Option.some.inj h)
  obtain ⟨rfl, rfl⟩ := Prod.mk.inj h2
  exact g_retAi C hch hr dX6_turn_39

set_option maxHeartbeats 2000000 in
set_option maxRecDepth 20000 in
theorem oX6_turn_b34 {N : Nat} {A' : gM} {u : Nat × Nat × Nat} {r : Int32}  {cp k n : Nat} {A : gM} (h : mX6_turn_b34 N cp k n A = some (A', u, r)) : k ≤ u.2.1 ∧ n ≤ u.2.2 := by
  unfold mX6_turn_b34 at h
  obtain ⟨q1, eq1, h⟩ := g_bd h
  exact oX6_turn_b39 h

set_option maxHeartbeats 2000000 in
set_option maxRecDepth 20000 in
theorem wX6_turn_b34 (hN : 193 ≤ N)  {A0 A' : gM} {u : Nat × Nat × Nat} {r : Int32} (C : gC p (g_rmx 5 u.2.1 u.2.2) s m args meth c cX6_turn RX6 3 D g (va_A (gw g ad0 ln0 A0 N) s.heap.size) 5) (hr : meth.sig.returnType = some .int)  {cp k n : Nat} (hch : g_chg N ad0 ln0 ad ln cp) {A : gM} (h : mX6_turn_b34 N cp k n A = some (A', u, r)) : gJ p l e (g_rmx 5 u.2.1 u.2.2) s m args below meth c (gEAi below D g N ad0 ln0 A0 A' u r args s) 3 D g (va_A (gw g ad0 ln0 A0 N) s.heap.size) N ad ln A [(0, gr 183)] k n 34 [] := by
  have hkn := oX6_turn_b34 h
  unfold mX6_turn_b34 at h
  refine g_aload_n C 0 dX6_turn_34 rfl ?_
  refine g_iconst (v := 1) C dX6_turn_35 (by decide) ?_
  obtain ⟨q1, eq1, h⟩ := g_bd h
  refine g_calliV C 183 [gi 1] (kX6_fail hN hch.2 eq1) qs_X6_60 (by omega) (by omega) rfl rfl rfl rfl (Nat.le_of_ble_eq_true rfl) hkn dX6_turn_36 ?_
  refine g_sub [] rfl ?_
  exact wX6_turn_b39 hN C hr hch h

set_option maxHeartbeats 2000000 in
set_option maxRecDepth 20000 in
theorem oX6_turn_b31 {N : Nat} {A' : gM} {u : Nat × Nat × Nat} {r : Int32}  {cp k n : Nat} {A : gM} {s0 : Int32} (h : mX6_turn_b31 N cp k n A s0 = some (A', u, r)) : k ≤ u.2.1 ∧ n ≤ u.2.2 := by
  unfold mX6_turn_b31 at h
  exact oX6_turn_b39 h

set_option maxHeartbeats 2000000 in
set_option maxRecDepth 20000 in
theorem wX6_turn_b31 (hN : 193 ≤ N)  {A0 A' : gM} {u : Nat × Nat × Nat} {r : Int32} (C : gC p (g_rmx 5 u.2.1 u.2.2) s m args meth c cX6_turn RX6 3 D g (va_A (gw g ad0 ln0 A0 N) s.heap.size) 5) (hr : meth.sig.returnType = some .int)  {cp k n : Nat} (hch : g_chg N ad0 ln0 ad ln cp) {A : gM} {s0 : Int32} (h : mX6_turn_b31 N cp k n A s0 = some (A', u, r)) : gJ p l e (g_rmx 5 u.2.1 u.2.2) s m args below meth c (gEAi below D g N ad0 ln0 A0 A' u r args s) 3 D g (va_A (gw g ad0 ln0 A0 N) s.heap.size) N ad ln A [] k n 31 [gi s0] := by
  have hkn := oX6_turn_b31 h
  unfold mX6_turn_b31 at h
  refine g_goto C dX6_turn_31 (tgt := 39) (by decide) ?_
  refine g_sub [] rfl ?_
  exact wX6_turn_b39 hN C hr hch h

set_option maxHeartbeats 2000000 in
set_option maxRecDepth 20000 in
theorem oX6_turn_b0 {N : Nat} {A' : gM} {u : Nat × Nat × Nat} {r : Int32}  {cp k n : Nat} {A : gM} {x1 : Int32} {x2 : Int32} (h : mX6_turn_b0 N cp k n A x1 x2 = some (A', u, r)) : k ≤ u.2.1 ∧ n ≤ u.2.2 := by
  unfold mX6_turn_b0 at h
  obtain ⟨A1, eA1, h⟩ := g_lt h
  obtain ⟨q2, eq2, h⟩ := g_bd h
  by_cases c3 : q2.2 = 0
  · have h := g_tt c3 h
    exact oX6_turn_b34 h
  · have h := g_ff c3 h
    obtain ⟨q4, eq4, h⟩ := g_bd h
    by_cases c5 : q4.2 = 0
    · have h := g_tt c5 h
      exact oX6_turn_b34 h
    · have h := g_ff c5 h
      obtain ⟨q6, eq6, h⟩ := g_bd h
      have mo := oX6_turn_b31 h
      exact ⟨by omega, by omega⟩

set_option maxHeartbeats 2000000 in
set_option maxRecDepth 20000 in
theorem wX6_turn_b0 (hN : 193 ≤ N)  {A0 A' : gM} {u : Nat × Nat × Nat} {r : Int32} (C : gC p (g_rmx 5 u.2.1 u.2.2) s m args meth c cX6_turn RX6 3 D g (va_A (gw g ad0 ln0 A0 N) s.heap.size) 5) (hr : meth.sig.returnType = some .int)  {cp k n : Nat} (hch : g_chg N ad0 ln0 ad ln cp) {A : gM} {x1 : Int32} {x2 : Int32} (h : mX6_turn_b0 N cp k n A x1 x2 = some (A', u, r)) : gJ p l e (g_rmx 5 u.2.1 u.2.2) s m args below meth c (gEAi below D g N ad0 ln0 A0 A' u r args s) 3 D g (va_A (gw g ad0 ln0 A0 N) s.heap.size) N ad ln A [(0, gr 183), (1, gi x1), (2, gi x2)] k n 0 [] := by
  have hkn := oX6_turn_b0 h
  unfold mX6_turn_b0 at h
  refine g_aload_n C 0 dX6_turn_0 rfl ?_
  refine g_iconst (v := 0) C dX6_turn_1 (by decide) ?_
  obtain ⟨A1, eA1, h⟩ := g_lt h
  refine g_put C 183 0 tyX6 tyX6_ok nmX6 (by omega) rfl rfl gu_6 (by decide) qf_X6_35 rfl (by decide +kernel) (Nat.le_of_ble_eq_true rfl) rfl eA1 dX6_turn_2 ?_
  refine g_aload_n C 0 dX6_turn_5 rfl ?_
  refine g_iload_n C 1 dX6_turn_6 rfl ?_
  obtain ⟨q2, eq2, h⟩ := g_bd h
  refine g_calliV C 183 [gi x1] (kX6_isPart hN hch.2 eq2) qs_X6_75 (by omega) (by omega) rfl rfl rfl rfl (Nat.le_of_ble_eq_true rfl) hkn dX6_turn_7 ?_
  refine g_if_eq C dX6_turn_10 (tgt := 34) (by decide) (fun c3 => ?_) (fun c3 => ?_)
  · have h := g_tt c3 h
    refine g_sub [0] rfl ?_
    exact wX6_turn_b34 hN C hr hch h
  · have h := g_ff c3 h
    refine g_aload_n C 0 dX6_turn_13 rfl ?_
    refine g_iload_n C 2 dX6_turn_14 rfl ?_
    obtain ⟨q4, eq4, h⟩ := g_bd h
    refine g_calliV C 183 [gi x2] (kX6_isPart hN hch.2 eq4) qs_X6_75 (by omega) (by omega) rfl rfl rfl rfl (Nat.le_of_ble_eq_true rfl) hkn dX6_turn_15 ?_
    refine g_if_eq C dX6_turn_18 (tgt := 34) (by decide) (fun c5 => ?_) (fun c5 => ?_)
    · have h := g_tt c5 h
      refine g_sub [0] rfl ?_
      exact wX6_turn_b34 hN C hr hch h
    · have h := g_ff c5 h
      refine g_aload_n C 0 dX6_turn_21 rfl ?_
      refine g_iconst (v := 4) C dX6_turn_22 (by decide) ?_
      refine g_iload_n C 1 dX6_turn_23 rfl ?_
      refine g_iload_n C 2 dX6_turn_24 rfl ?_
      refine g_iconst (v := (-1)) C dX6_turn_25 (by decide) ?_
      refine g_iconst (v := (-1)) C dX6_turn_26 (by decide) ?_
      refine g_iconst (v := 2) C dX6_turn_27 (by decide) ?_
      obtain ⟨q6, eq6, h⟩ := g_bd h
      have mo := oX6_turn_b31 h
      refine g_callAiV C 183 [gi 4, gi x1, gi x2, gi (-1), gi (-1), gi 2] (kX6_made hN hch.2 eq6) qs_X6_67 (by omega) (by omega) rfl rfl rfl rfl (Nat.le_of_ble_eq_true rfl) ⟨mo.1, mo.2⟩ (And.intro ⟨by omega, by omega⟩ True.intro) True.intro dX6_turn_28 (fun ad1 ln1 hch1 => ?_)
      have hch := g_chg.trans (by omega) hch hch1
      refine g_sub [] rfl ?_
      exact wX6_turn_b31 hN C hr hch h

set_option maxHeartbeats 2000000 in
set_option maxRecDepth 20000 in
theorem kX6_turn {l : Launch} {D : va_G} {g : gT} {N : Nat} (hN : 193 ≤ N) {ad ln : Nat → Nat} {cp : Nat} (hcp : g_cap ln cp) {A A' : gM} {x1 : Int32} {x2 : Int32} {u : Nat × Nat × Nat} {r : Int32} (h : mX6_turn N cp A x1 x2 = some (A', u, r)) : gAi l yX6_turn cX6_turn 3 (some .int) (5) D g N ad ln A [gr 183, gi x1, gi x2] A' u r := by
  refine g_metAi (by decide) (Nat.le_of_ble_eq_true rfl) ?_
  intro p e s m args below meth c C hr
  refine g_sub [0, 1, 2] rfl ?_
  exact wX6_turn_b0 hN C hr (g_chg.rf hcp) h
def mX6_tell_b21 (N cp k n : Nat) (A : gM) : Option (gM × (Nat × Nat × Nat) × Int32) :=
  (mX6_fail cp A 1).bind fun q1 =>
  some (q1.1, (cp, k, n), q1.2)
def mX6_tell_b52 (N cp k n : Nat) (A : gM) (s0 : Int32) : Option (gM × (Nat × Nat × Nat) × Int32) :=
  some (A, (cp, k, n), s0)
def mX6_tell_b44 (N cp k n : Nat) (A : gM) (s0 : Int32) : Option (gM × (Nat × Nat × Nat) × Int32) :=
  mX6_tell_b52 N cp k n A s0
def mX6_tell_b0 (N cp k n : Nat) (A : gM) (x1 : Int32) (x2 : Int32) (x3 : Int32) : Option (gM × (Nat × Nat × Nat) × Int32) :=
  g_let (g_up A 183 0 0) fun A1 =>
  (mX6_isPart cp A1 x2).bind fun q2 =>
  if q2.2 = 0 then
  mX6_tell_b21 N cp k n q2.1
  else
  (mX6_isPart cp q2.1 x3).bind fun q4 =>
  if q4.2 = 0 then
  mX6_tell_b21 N cp k n q4.1
  else
  (mX6_isName cp q4.1 x1).bind fun q6 =>
  if q6.2 = 0 then
  (mX6_fail cp q6.1 2).bind fun q8 =>
  mX6_tell_b52 N cp k n q8.1 q8.2
  else
  (mX6_made N cp q6.1 5 x2 x3 (-1) x1 3).bind fun q9 =>
  mX6_tell_b44 N q9.2.1.1 (k + q9.2.1.2.1) (n + q9.2.1.2.2) q9.1 q9.2.2
def mX6_tell (N cp : Nat) (A : gM) (x1 : Int32) (x2 : Int32) (x3 : Int32) : Option (gM × (Nat × Nat × Nat) × Int32) := mX6_tell_b0 N cp 0 0 A x1 x2 x3
set_option maxHeartbeats 2000000 in
set_option maxRecDepth 20000 in
theorem oX6_tell_b21 {N : Nat} {A' : gM} {u : Nat × Nat × Nat} {r : Int32}  {cp k n : Nat} {A : gM} (h : mX6_tell_b21 N cp k n A = some (A', u, r)) : k ≤ u.2.1 ∧ n ≤ u.2.2 := by
  unfold mX6_tell_b21 at h
  obtain ⟨q1, eq1, h⟩ := g_bd h
  obtain ⟨rfl, h2⟩ := Prod.mk.inj (Option.some.inj h)
  obtain ⟨rfl, rfl⟩ := Prod.mk.inj h2
  exact ⟨Nat.le_refl _, Nat.le_refl _⟩

set_option maxHeartbeats 2000000 in
set_option maxRecDepth 20000 in
theorem wX6_tell_b21 (hN : 193 ≤ N)  {A0 A' : gM} {u : Nat × Nat × Nat} {r : Int32} (C : gC p (g_rmx 5 u.2.1 u.2.2) s m args meth c cX6_tell RX6 4 D g (va_A (gw g ad0 ln0 A0 N) s.heap.size) 5) (hr : meth.sig.returnType = some .int)  {cp k n : Nat} (hch : g_chg N ad0 ln0 ad ln cp) {A : gM} (h : mX6_tell_b21 N cp k n A = some (A', u, r)) : gJ p l e (g_rmx 5 u.2.1 u.2.2) s m args below meth c (gEAi below D g N ad0 ln0 A0 A' u r args s) 4 D g (va_A (gw g ad0 ln0 A0 N) s.heap.size) N ad ln A [(0, gr 183)] k n 21 [] := by
  have hkn := oX6_tell_b21 h
  unfold mX6_tell_b21 at h
  refine g_aload_n C 0 dX6_tell_21 rfl ?_
  refine g_iconst (v := 1) C dX6_tell_22 (by decide) ?_
  obtain ⟨q1, eq1, h⟩ := g_bd h
  refine g_calliV C 183 [gi 1] (kX6_fail hN hch.2 eq1) qs_X6_60 (by omega) (by omega) rfl rfl rfl rfl (Nat.le_of_ble_eq_true rfl) hkn dX6_tell_23 ?_
  obtain ⟨rfl, h2⟩ := Prod.mk.inj (Option.some.inj h)
  obtain ⟨rfl, rfl⟩ := Prod.mk.inj h2
  exact g_retAi C hch hr dX6_tell_26

set_option maxHeartbeats 2000000 in
set_option maxRecDepth 20000 in
theorem oX6_tell_b52 {N : Nat} {A' : gM} {u : Nat × Nat × Nat} {r : Int32}  {cp k n : Nat} {A : gM} {s0 : Int32} (h : mX6_tell_b52 N cp k n A s0 = some (A', u, r)) : k ≤ u.2.1 ∧ n ≤ u.2.2 := by
  unfold mX6_tell_b52 at h
  obtain ⟨rfl, h2⟩ := Prod.mk.inj (Option.some.inj h)
  obtain ⟨rfl, rfl⟩ := Prod.mk.inj h2
  exact ⟨Nat.le_refl _, Nat.le_refl _⟩

set_option maxHeartbeats 2000000 in
set_option maxRecDepth 20000 in
theorem wX6_tell_b52 (hN : 193 ≤ N)  {A0 A' : gM} {u : Nat × Nat × Nat} {r : Int32} (C : gC p (g_rmx 5 u.2.1 u.2.2) s m args meth c cX6_tell RX6 4 D g (va_A (gw g ad0 ln0 A0 N) s.heap.size) 5) (hr : meth.sig.returnType = some .int)  {cp k n : Nat} (hch : g_chg N ad0 ln0 ad ln cp) {A : gM} {s0 : Int32} (h : mX6_tell_b52 N cp k n A s0 = some (A', u, r)) : gJ p l e (g_rmx 5 u.2.1 u.2.2) s m args below meth c (gEAi below D g N ad0 ln0 A0 A' u r args s) 4 D g (va_A (gw g ad0 ln0 A0 N) s.heap.size) N ad ln A [] k n 52 [gi s0] := by
  have hkn := oX6_tell_b52 h
  unfold mX6_tell_b52 at h
  obtain ⟨rfl, h2⟩ := Prod.mk.inj (Option.some.inj h)
  obtain ⟨rfl, rfl⟩ := Prod.mk.inj h2
  exact g_retAi C hch hr dX6_tell_52

set_option maxHeartbeats 2000000 in
set_option maxRecDepth 20000 in
theorem oX6_tell_b44 {N : Nat} {A' : gM} {u : Nat × Nat × Nat} {r : Int32}  {cp k n : Nat} {A : gM} {s0 : Int32} (h : mX6_tell_b44 N cp k n A s0 = some (A', u, r)) : k ≤ u.2.1 ∧ n ≤ u.2.2 := by
  unfold mX6_tell_b44 at h
  exact oX6_tell_b52 h

set_option maxHeartbeats 2000000 in
set_option maxRecDepth 20000 in
theorem wX6_tell_b44 (hN : 193 ≤ N)  {A0 A' : gM} {u : Nat × Nat × Nat} {r : Int32} (C : gC p (g_rmx 5 u.2.1 u.2.2) s m args meth c cX6_tell RX6 4 D g (va_A (gw g ad0 ln0 A0 N) s.heap.size) 5) (hr : meth.sig.returnType = some .int)  {cp k n : Nat} (hch : g_chg N ad0 ln0 ad ln cp) {A : gM} {s0 : Int32} (h : mX6_tell_b44 N cp k n A s0 = some (A', u, r)) : gJ p l e (g_rmx 5 u.2.1 u.2.2) s m args below meth c (gEAi below D g N ad0 ln0 A0 A' u r args s) 4 D g (va_A (gw g ad0 ln0 A0 N) s.heap.size) N ad ln A [] k n 44 [gi s0] := by
  have hkn := oX6_tell_b44 h
  unfold mX6_tell_b44 at h
  refine g_goto C dX6_tell_44 (tgt := 52) (by decide) ?_
  refine g_sub [] rfl ?_
  exact wX6_tell_b52 hN C hr hch h

set_option maxHeartbeats 2000000 in
set_option maxRecDepth 20000 in
theorem oX6_tell_b0 {N : Nat} {A' : gM} {u : Nat × Nat × Nat} {r : Int32}  {cp k n : Nat} {A : gM} {x1 : Int32} {x2 : Int32} {x3 : Int32} (h : mX6_tell_b0 N cp k n A x1 x2 x3 = some (A', u, r)) : k ≤ u.2.1 ∧ n ≤ u.2.2 := by
  unfold mX6_tell_b0 at h
  obtain ⟨A1, eA1, h⟩ := g_lt h
  obtain ⟨q2, eq2, h⟩ := g_bd h
  by_cases c3 : q2.2 = 0
  · have h := g_tt c3 h
    exact oX6_tell_b21 h
  · have h := g_ff c3 h
    obtain ⟨q4, eq4, h⟩ := g_bd h
    by_cases c5 : q4.2 = 0
    · have h := g_tt c5 h
      exact oX6_tell_b21 h
    · have h := g_ff c5 h
      obtain ⟨q6, eq6, h⟩ := g_bd h
      by_cases c7 : q6.2 = 0
      · have h := g_tt c7 h
        obtain ⟨q8, eq8, h⟩ := g_bd h
        exact oX6_tell_b52 h
      · have h := g_ff c7 h
        obtain ⟨q9, eq9, h⟩ := g_bd h
        have mo := oX6_tell_b44 h
        exact ⟨by omega, by omega⟩

set_option maxHeartbeats 2000000 in
set_option maxRecDepth 20000 in
theorem wX6_tell_b0 (hN : 193 ≤ N)  {A0 A' : gM} {u : Nat × Nat × Nat} {r : Int32} (C : gC p (g_rmx 5 u.2.1 u.2.2) s m args meth c cX6_tell RX6 4 D g (va_A (gw g ad0 ln0 A0 N) s.heap.size) 5) (hr : meth.sig.returnType = some .int)  {cp k n : Nat} (hch : g_chg N ad0 ln0 ad ln cp) {A : gM} {x1 : Int32} {x2 : Int32} {x3 : Int32} (h : mX6_tell_b0 N cp k n A x1 x2 x3 = some (A', u, r)) : gJ p l e (g_rmx 5 u.2.1 u.2.2) s m args below meth c (gEAi below D g N ad0 ln0 A0 A' u r args s) 4 D g (va_A (gw g ad0 ln0 A0 N) s.heap.size) N ad ln A [(0, gr 183), (1, gi x1), (2, gi x2), (3, gi x3)] k n 0 [] := by
  have hkn := oX6_tell_b0 h
  unfold mX6_tell_b0 at h
  refine g_aload_n C 0 dX6_tell_0 rfl ?_
  refine g_iconst (v := 0) C dX6_tell_1 (by decide) ?_
  obtain ⟨A1, eA1, h⟩ := g_lt h
  refine g_put C 183 0 tyX6 tyX6_ok nmX6 (by omega) rfl rfl gu_6 (by decide) qf_X6_35 rfl (by decide +kernel) (Nat.le_of_ble_eq_true rfl) rfl eA1 dX6_tell_2 ?_
  refine g_aload_n C 0 dX6_tell_5 rfl ?_
  refine g_iload_n C 2 dX6_tell_6 rfl ?_
  obtain ⟨q2, eq2, h⟩ := g_bd h
  refine g_calliV C 183 [gi x2] (kX6_isPart hN hch.2 eq2) qs_X6_75 (by omega) (by omega) rfl rfl rfl rfl (Nat.le_of_ble_eq_true rfl) hkn dX6_tell_7 ?_
  refine g_if_eq C dX6_tell_10 (tgt := 21) (by decide) (fun c3 => ?_) (fun c3 => ?_)
  · have h := g_tt c3 h
    refine g_sub [0] rfl ?_
    exact wX6_tell_b21 hN C hr hch h
  · have h := g_ff c3 h
    refine g_aload_n C 0 dX6_tell_13 rfl ?_
    refine g_iload_n C 3 dX6_tell_14 rfl ?_
    obtain ⟨q4, eq4, h⟩ := g_bd h
    refine g_calliV C 183 [gi x3] (kX6_isPart hN hch.2 eq4) qs_X6_75 (by omega) (by omega) rfl rfl rfl rfl (Nat.le_of_ble_eq_true rfl) hkn dX6_tell_15 ?_
    refine g_if_ne C dX6_tell_18 (tgt := 27) (by decide) (fun c5 => ?_) (fun c5 => ?_)
    · have h := g_ff c5 h
      refine g_iload_n C 1 dX6_tell_27 rfl ?_
      obtain ⟨q6, eq6, h⟩ := g_bd h
      refine g_calliS C [gi x1] (kX6_isName hN hch.2 eq6) qs_X6_71 (by omega) rfl rfl (Nat.le_of_ble_eq_true rfl) hkn dX6_tell_28 ?_
      refine g_if_eq C dX6_tell_31 (tgt := 47) (by decide) (fun c7 => ?_) (fun c7 => ?_)
      · have h := g_tt c7 h
        refine g_aload_n C 0 dX6_tell_47 rfl ?_
        refine g_iconst (v := 2) C dX6_tell_48 (by decide) ?_
        obtain ⟨q8, eq8, h⟩ := g_bd h
        refine g_calliV C 183 [gi 2] (kX6_fail hN hch.2 eq8) qs_X6_60 (by omega) (by omega) rfl rfl rfl rfl (Nat.le_of_ble_eq_true rfl) hkn dX6_tell_49 ?_
        refine g_sub [] rfl ?_
        exact wX6_tell_b52 hN C hr hch h
      · have h := g_ff c7 h
        refine g_aload_n C 0 dX6_tell_34 rfl ?_
        refine g_iconst (v := 5) C dX6_tell_35 (by decide) ?_
        refine g_iload_n C 2 dX6_tell_36 rfl ?_
        refine g_iload_n C 3 dX6_tell_37 rfl ?_
        refine g_iconst (v := (-1)) C dX6_tell_38 (by decide) ?_
        refine g_iload_n C 1 dX6_tell_39 rfl ?_
        refine g_iconst (v := 3) C dX6_tell_40 (by decide) ?_
        obtain ⟨q9, eq9, h⟩ := g_bd h
        have mo := oX6_tell_b44 h
        refine g_callAiV C 183 [gi 5, gi x2, gi x3, gi (-1), gi x1, gi 3] (kX6_made hN hch.2 eq9) qs_X6_67 (by omega) (by omega) rfl rfl rfl rfl (Nat.le_of_ble_eq_true rfl) ⟨mo.1, mo.2⟩ (And.intro ⟨by omega, by omega⟩ True.intro) True.intro dX6_tell_41 (fun ad1 ln1 hch1 => ?_)
        have hch := g_chg.trans (by omega) hch hch1
        refine g_sub [] rfl ?_
        exact wX6_tell_b44 hN C hr hch h
    · have h := g_tt c5 h
      refine g_sub [0] rfl ?_
      exact wX6_tell_b21 hN C hr hch h

set_option maxHeartbeats 2000000 in
set_option maxRecDepth 20000 in
theorem kX6_tell {l : Launch} {D : va_G} {g : gT} {N : Nat} (hN : 193 ≤ N) {ad ln : Nat → Nat} {cp : Nat} (hcp : g_cap ln cp) {A A' : gM} {x1 : Int32} {x2 : Int32} {x3 : Int32} {u : Nat × Nat × Nat} {r : Int32} (h : mX6_tell N cp A x1 x2 x3 = some (A', u, r)) : gAi l yX6_tell cX6_tell 4 (some .int) (5) D g N ad ln A [gr 183, gi x1, gi x2, gi x3] A' u r := by
  refine g_metAi (by decide) (Nat.le_of_ble_eq_true rfl) ?_
  intro p e s m args below meth c C hr
  refine g_sub [0, 1, 2, 3] rfl ?_
  exact wX6_tell_b0 hN C hr (g_chg.rf hcp) h
def mX6_axle_b40 (N cp k n : Nat) (A : gM) (s0 : Int32) : Option (gM × (Nat × Nat × Nat) × Int32) :=
  some (A, (cp, k, n), s0)
def mX6_axle_b35 (N cp k n : Nat) (A : gM) : Option (gM × (Nat × Nat × Nat) × Int32) :=
  (mX6_fail cp A 1).bind fun q1 =>
  mX6_axle_b40 N cp k n q1.1 q1.2
def mX6_axle_b32 (N cp k n : Nat) (A : gM) (s0 : Int32) : Option (gM × (Nat × Nat × Nat) × Int32) :=
  mX6_axle_b40 N cp k n A s0
def mX6_axle_b0 (N cp k n : Nat) (A : gM) (x1 : Int32) (x2 : Int32) : Option (gM × (Nat × Nat × Nat) × Int32) :=
  g_let (g_up A 183 0 0) fun A1 =>
  (mX6_isPart cp A1 x1).bind fun q2 =>
  if q2.2 = 0 then
  mX6_axle_b35 N cp k n q2.1
  else
  (mX6_isPart cp q2.1 x2).bind fun q4 =>
  if q4.2 = 0 then
  mX6_axle_b35 N cp k n q4.1
  else
  (mX6_made N cp q4.1 6 x1 x2 (-1) (-1) 2).bind fun q6 =>
  mX6_axle_b32 N q6.2.1.1 (k + q6.2.1.2.1) (n + q6.2.1.2.2) q6.1 q6.2.2
def mX6_axle (N cp : Nat) (A : gM) (x1 : Int32) (x2 : Int32) : Option (gM × (Nat × Nat × Nat) × Int32) := mX6_axle_b0 N cp 0 0 A x1 x2
set_option maxHeartbeats 2000000 in
set_option maxRecDepth 20000 in
theorem oX6_axle_b40 {N : Nat} {A' : gM} {u : Nat × Nat × Nat} {r : Int32}  {cp k n : Nat} {A : gM} {s0 : Int32} (h : mX6_axle_b40 N cp k n A s0 = some (A', u, r)) : k ≤ u.2.1 ∧ n ≤ u.2.2 := by
  unfold mX6_axle_b40 at h
  obtain ⟨rfl, h2⟩ := Prod.mk.inj (Option.some.inj h)
  obtain ⟨rfl, rfl⟩ := Prod.mk.inj h2
  exact ⟨Nat.le_refl _, Nat.le_refl _⟩

set_option maxHeartbeats 2000000 in
set_option maxRecDepth 20000 in
theorem wX6_axle_b40 (hN : 193 ≤ N)  {A0 A' : gM} {u : Nat × Nat × Nat} {r : Int32} (C : gC p (g_rmx 5 u.2.1 u.2.2) s m args meth c cX6_axle RX6 3 D g (va_A (gw g ad0 ln0 A0 N) s.heap.size) 5) (hr : meth.sig.returnType = some .int)  {cp k n : Nat} (hch : g_chg N ad0 ln0 ad ln cp) {A : gM} {s0 : Int32} (h : mX6_axle_b40 N cp k n A s0 = some (A', u, r)) : gJ p l e (g_rmx 5 u.2.1 u.2.2) s m args below meth c (gEAi below D g N ad0 ln0 A0 A' u r args s) 3 D g (va_A (gw g ad0 ln0 A0 N) s.heap.size) N ad ln A [] k n 40 [gi s0] := by
  have hkn := oX6_axle_b40 h
  unfold mX6_axle_b40 at h
  obtain ⟨rfl, h2⟩ := Prod.mk.inj (Option.some.inj h)
  obtain ⟨rfl, rfl⟩ := Prod.mk.inj h2
  exact g_retAi C hch hr dX6_axle_40

set_option maxHeartbeats 2000000 in
set_option maxRecDepth 20000 in
theorem oX6_axle_b35 {N : Nat} {A' : gM} {u : Nat × Nat × Nat} {r : Int32}  {cp k n : Nat} {A : gM} (h : mX6_axle_b35 N cp k n A = some (A', u, r)) : k ≤ u.2.1 ∧ n ≤ u.2.2 := by
  unfold mX6_axle_b35 at h
  obtain ⟨q1, eq1, h⟩ := g_bd h
  exact oX6_axle_b40 h

set_option maxHeartbeats 2000000 in
set_option maxRecDepth 20000 in
theorem wX6_axle_b35 (hN : 193 ≤ N)  {A0 A' : gM} {u : Nat × Nat × Nat} {r : Int32} (C : gC p (g_rmx 5 u.2.1 u.2.2) s m args meth c cX6_axle RX6 3 D g (va_A (gw g ad0 ln0 A0 N) s.heap.size) 5) (hr : meth.sig.returnType = some .int)  {cp k n : Nat} (hch : g_chg N ad0 ln0 ad ln cp) {A : gM} (h : mX6_axle_b35 N cp k n A = some (A', u, r)) : gJ p l e (g_rmx 5 u.2.1 u.2.2) s m args below meth c (gEAi below D g N ad0 ln0 A0 A' u r args s) 3 D g (va_A (gw g ad0 ln0 A0 N) s.heap.size) N ad ln A [(0, gr 183)] k n 35 [] := by
  have hkn := oX6_axle_b35 h
  unfold mX6_axle_b35 at h
  refine g_aload_n C 0 dX6_axle_35 rfl ?_
  refine g_iconst (v := 1) C dX6_axle_36 (by decide) ?_
  obtain ⟨q1, eq1, h⟩ := g_bd h
  refine g_calliV C 183 [gi 1] (kX6_fail hN hch.2 eq1) qs_X6_60 (by omega) (by omega) rfl rfl rfl rfl (Nat.le_of_ble_eq_true rfl) hkn dX6_axle_37 ?_
  refine g_sub [] rfl ?_
  exact wX6_axle_b40 hN C hr hch h

set_option maxHeartbeats 2000000 in
set_option maxRecDepth 20000 in
theorem oX6_axle_b32 {N : Nat} {A' : gM} {u : Nat × Nat × Nat} {r : Int32}  {cp k n : Nat} {A : gM} {s0 : Int32} (h : mX6_axle_b32 N cp k n A s0 = some (A', u, r)) : k ≤ u.2.1 ∧ n ≤ u.2.2 := by
  unfold mX6_axle_b32 at h
  exact oX6_axle_b40 h

set_option maxHeartbeats 2000000 in
set_option maxRecDepth 20000 in
theorem wX6_axle_b32 (hN : 193 ≤ N)  {A0 A' : gM} {u : Nat × Nat × Nat} {r : Int32} (C : gC p (g_rmx 5 u.2.1 u.2.2) s m args meth c cX6_axle RX6 3 D g (va_A (gw g ad0 ln0 A0 N) s.heap.size) 5) (hr : meth.sig.returnType = some .int)  {cp k n : Nat} (hch : g_chg N ad0 ln0 ad ln cp) {A : gM} {s0 : Int32} (h : mX6_axle_b32 N cp k n A s0 = some (A', u, r)) : gJ p l e (g_rmx 5 u.2.1 u.2.2) s m args below meth c (gEAi below D g N ad0 ln0 A0 A' u r args s) 3 D g (va_A (gw g ad0 ln0 A0 N) s.heap.size) N ad ln A [] k n 32 [gi s0] := by
  have hkn := oX6_axle_b32 h
  unfold mX6_axle_b32 at h
  refine g_goto C dX6_axle_32 (tgt := 40) (by decide) ?_
  refine g_sub [] rfl ?_
  exact wX6_axle_b40 hN C hr hch h

set_option maxHeartbeats 2000000 in
set_option maxRecDepth 20000 in
theorem oX6_axle_b0 {N : Nat} {A' : gM} {u : Nat × Nat × Nat} {r : Int32}  {cp k n : Nat} {A : gM} {x1 : Int32} {x2 : Int32} (h : mX6_axle_b0 N cp k n A x1 x2 = some (A', u, r)) : k ≤ u.2.1 ∧ n ≤ u.2.2 := by
  unfold mX6_axle_b0 at h
  obtain ⟨A1, eA1, h⟩ := g_lt h
  obtain ⟨q2, eq2, h⟩ := g_bd h
  by_cases c3 : q2.2 = 0
  · have h := g_tt c3 h
    exact oX6_axle_b35 h
  · have h := g_ff c3 h
    obtain ⟨q4, eq4, h⟩ := g_bd h
    by_cases c5 : q4.2 = 0
    · have h := g_tt c5 h
      exact oX6_axle_b35 h
    · have h := g_ff c5 h
      obtain ⟨q6, eq6, h⟩ := g_bd h
      have mo := oX6_axle_b32 h
      exact ⟨by omega, by omega⟩

set_option maxHeartbeats 2000000 in
set_option maxRecDepth 20000 in
theorem wX6_axle_b0 (hN : 193 ≤ N)  {A0 A' : gM} {u : Nat × Nat × Nat} {r : Int32} (C : gC p (g_rmx 5 u.2.1 u.2.2) s m args meth c cX6_axle RX6 3 D g (va_A (gw g ad0 ln0 A0 N) s.heap.size) 5) (hr : meth.sig.returnType = some .int)  {cp k n : Nat} (hch : g_chg N ad0 ln0 ad ln cp) {A : gM} {x1 : Int32} {x2 : Int32} (h : mX6_axle_b0 N cp k n A x1 x2 = some (A', u, r)) : gJ p l e (g_rmx 5 u.2.1 u.2.2) s m args below meth c (gEAi below D g N ad0 ln0 A0 A' u r args s) 3 D g (va_A (gw g ad0 ln0 A0 N) s.heap.size) N ad ln A [(0, gr 183), (1, gi x1), (2, gi x2)] k n 0 [] := by
  have hkn := oX6_axle_b0 h
  unfold mX6_axle_b0 at h
  refine g_aload_n C 0 dX6_axle_0 rfl ?_
  refine g_iconst (v := 0) C dX6_axle_1 (by decide) ?_
  obtain ⟨A1, eA1, h⟩ := g_lt h
  refine g_put C 183 0 tyX6 tyX6_ok nmX6 (by omega) rfl rfl gu_6 (by decide) qf_X6_35 rfl (by decide +kernel) (Nat.le_of_ble_eq_true rfl) rfl eA1 dX6_axle_2 ?_
  refine g_aload_n C 0 dX6_axle_5 rfl ?_
  refine g_iload_n C 1 dX6_axle_6 rfl ?_
  obtain ⟨q2, eq2, h⟩ := g_bd h
  refine g_calliV C 183 [gi x1] (kX6_isPart hN hch.2 eq2) qs_X6_75 (by omega) (by omega) rfl rfl rfl rfl (Nat.le_of_ble_eq_true rfl) hkn dX6_axle_7 ?_
  refine g_if_eq C dX6_axle_10 (tgt := 35) (by decide) (fun c3 => ?_) (fun c3 => ?_)
  · have h := g_tt c3 h
    refine g_sub [0] rfl ?_
    exact wX6_axle_b35 hN C hr hch h
  · have h := g_ff c3 h
    refine g_aload_n C 0 dX6_axle_13 rfl ?_
    refine g_iload_n C 2 dX6_axle_14 rfl ?_
    obtain ⟨q4, eq4, h⟩ := g_bd h
    refine g_calliV C 183 [gi x2] (kX6_isPart hN hch.2 eq4) qs_X6_75 (by omega) (by omega) rfl rfl rfl rfl (Nat.le_of_ble_eq_true rfl) hkn dX6_axle_15 ?_
    refine g_if_eq C dX6_axle_18 (tgt := 35) (by decide) (fun c5 => ?_) (fun c5 => ?_)
    · have h := g_tt c5 h
      refine g_sub [0] rfl ?_
      exact wX6_axle_b35 hN C hr hch h
    · have h := g_ff c5 h
      refine g_aload_n C 0 dX6_axle_21 rfl ?_
      refine g_bipush (v := 6) C dX6_axle_22 (by decide) ?_
      refine g_iload_n C 1 dX6_axle_24 rfl ?_
      refine g_iload_n C 2 dX6_axle_25 rfl ?_
      refine g_iconst (v := (-1)) C dX6_axle_26 (by decide) ?_
      refine g_iconst (v := (-1)) C dX6_axle_27 (by decide) ?_
      refine g_iconst (v := 2) C dX6_axle_28 (by decide) ?_
      obtain ⟨q6, eq6, h⟩ := g_bd h
      have mo := oX6_axle_b32 h
      refine g_callAiV C 183 [gi 6, gi x1, gi x2, gi (-1), gi (-1), gi 2] (kX6_made hN hch.2 eq6) qs_X6_67 (by omega) (by omega) rfl rfl rfl rfl (Nat.le_of_ble_eq_true rfl) ⟨mo.1, mo.2⟩ (And.intro ⟨by omega, by omega⟩ True.intro) True.intro dX6_axle_29 (fun ad1 ln1 hch1 => ?_)
      have hch := g_chg.trans (by omega) hch hch1
      refine g_sub [] rfl ?_
      exact wX6_axle_b32 hN C hr hch h

set_option maxHeartbeats 2000000 in
set_option maxRecDepth 20000 in
theorem kX6_axle {l : Launch} {D : va_G} {g : gT} {N : Nat} (hN : 193 ≤ N) {ad ln : Nat → Nat} {cp : Nat} (hcp : g_cap ln cp) {A A' : gM} {x1 : Int32} {x2 : Int32} {u : Nat × Nat × Nat} {r : Int32} (h : mX6_axle N cp A x1 x2 = some (A', u, r)) : gAi l yX6_axle cX6_axle 3 (some .int) (5) D g N ad ln A [gr 183, gi x1, gi x2] A' u r := by
  refine g_metAi (by decide) (Nat.le_of_ble_eq_true rfl) ?_
  intro p e s m args below meth c C hr
  refine g_sub [0, 1, 2] rfl ?_
  exact wX6_axle_b0 hN C hr (g_chg.rf hcp) h
def mX6_end_b47 (N cp k n : Nat) (A : gM) (s0 : Int32) : Option (gM × (Nat × Nat × Nat) × Int32) :=
  some (A, (cp, k, n), s0)
def mX6_end_b39 (N cp k n : Nat) (A : gM) (s0 : Int32) : Option (gM × (Nat × Nat × Nat) × Int32) :=
  mX6_end_b47 N cp k n A s0
def mX6_end_b0 (N cp k n : Nat) (A : gM) (x1 : Int32) (x2 : Int32) : Option (gM × (Nat × Nat × Nat) × Int32) :=
  g_let (g_up A 183 0 0) fun A1 =>
  (mX6_isPart cp A1 x1).bind fun q2 =>
  if q2.2 = 0 then
  (mX6_fail cp q2.1 1).bind fun q8 =>
  some (q8.1, (cp, k, n), q8.2)
  else
  (mX6_isIn cp q2.1 x2 0 1).bind fun q4 =>
  if q4.2 = 0 then
  (mX6_fail cp q4.1 2).bind fun q6 =>
  mX6_end_b47 N cp k n q6.1 q6.2
  else
  (mX6_made N cp q4.1 7 x1 (-1) (-1) x2 3).bind fun q7 =>
  mX6_end_b39 N q7.2.1.1 (k + q7.2.1.2.1) (n + q7.2.1.2.2) q7.1 q7.2.2
def mX6_end (N cp : Nat) (A : gM) (x1 : Int32) (x2 : Int32) : Option (gM × (Nat × Nat × Nat) × Int32) := mX6_end_b0 N cp 0 0 A x1 x2
set_option maxHeartbeats 2000000 in
set_option maxRecDepth 20000 in
theorem oX6_end_b47 {N : Nat} {A' : gM} {u : Nat × Nat × Nat} {r : Int32}  {cp k n : Nat} {A : gM} {s0 : Int32} (h : mX6_end_b47 N cp k n A s0 = some (A', u, r)) : k ≤ u.2.1 ∧ n ≤ u.2.2 := by
  unfold mX6_end_b47 at h
  obtain ⟨rfl, h2⟩ := Prod.mk.inj (Option.some.inj h)
  obtain ⟨rfl, rfl⟩ := Prod.mk.inj h2
  exact ⟨Nat.le_refl _, Nat.le_refl _⟩

set_option maxHeartbeats 2000000 in
set_option maxRecDepth 20000 in
theorem wX6_end_b47 (hN : 193 ≤ N)  {A0 A' : gM} {u : Nat × Nat × Nat} {r : Int32} (C : gC p (g_rmx 5 u.2.1 u.2.2) s m args meth c cX6_end RX6 3 D g (va_A (gw g ad0 ln0 A0 N) s.heap.size) 5) (hr : meth.sig.returnType = some .int)  {cp k n : Nat} (hch : g_chg N ad0 ln0 ad ln cp) {A : gM} {s0 : Int32} (h : mX6_end_b47 N cp k n A s0 = some (A', u, r)) : gJ p l e (g_rmx 5 u.2.1 u.2.2) s m args below meth c (gEAi below D g N ad0 ln0 A0 A' u r args s) 3 D g (va_A (gw g ad0 ln0 A0 N) s.heap.size) N ad ln A [] k n 47 [gi s0] := by
  have hkn := oX6_end_b47 h
  unfold mX6_end_b47 at h
  obtain ⟨rfl, h2⟩ := Prod.mk.inj (Option.some.inj h)
  obtain ⟨rfl, rfl⟩ := Prod.mk.inj h2
  exact g_retAi C hch hr dX6_end_47

set_option maxHeartbeats 2000000 in
set_option maxRecDepth 20000 in
theorem oX6_end_b39 {N : Nat} {A' : gM} {u : Nat × Nat × Nat} {r : Int32}  {cp k n : Nat} {A : gM} {s0 : Int32} (h : mX6_end_b39 N cp k n A s0 = some (A', u, r)) : k ≤ u.2.1 ∧ n ≤ u.2.2 := by
  unfold mX6_end_b39 at h
  exact oX6_end_b47 h

set_option maxHeartbeats 2000000 in
set_option maxRecDepth 20000 in
theorem wX6_end_b39 (hN : 193 ≤ N)  {A0 A' : gM} {u : Nat × Nat × Nat} {r : Int32} (C : gC p (g_rmx 5 u.2.1 u.2.2) s m args meth c cX6_end RX6 3 D g (va_A (gw g ad0 ln0 A0 N) s.heap.size) 5) (hr : meth.sig.returnType = some .int)  {cp k n : Nat} (hch : g_chg N ad0 ln0 ad ln cp) {A : gM} {s0 : Int32} (h : mX6_end_b39 N cp k n A s0 = some (A', u, r)) : gJ p l e (g_rmx 5 u.2.1 u.2.2) s m args below meth c (gEAi below D g N ad0 ln0 A0 A' u r args s) 3 D g (va_A (gw g ad0 ln0 A0 N) s.heap.size) N ad ln A [] k n 39 [gi s0] := by
  have hkn := oX6_end_b39 h
  unfold mX6_end_b39 at h
  refine g_goto C dX6_end_39 (tgt := 47) (by decide) ?_
  refine g_sub [] rfl ?_
  exact wX6_end_b47 hN C hr hch h

set_option maxHeartbeats 2000000 in
set_option maxRecDepth 20000 in
theorem oX6_end_b0 {N : Nat} {A' : gM} {u : Nat × Nat × Nat} {r : Int32}  {cp k n : Nat} {A : gM} {x1 : Int32} {x2 : Int32} (h : mX6_end_b0 N cp k n A x1 x2 = some (A', u, r)) : k ≤ u.2.1 ∧ n ≤ u.2.2 := by
  unfold mX6_end_b0 at h
  obtain ⟨A1, eA1, h⟩ := g_lt h
  obtain ⟨q2, eq2, h⟩ := g_bd h
  by_cases c3 : q2.2 = 0
  · have h := g_tt c3 h
    obtain ⟨q8, eq8, h⟩ := g_bd h
    obtain ⟨rfl, h2⟩ := Prod.mk.inj (Option.some.inj h)
    obtain ⟨rfl, rfl⟩ := Prod.mk.inj h2
    exact ⟨Nat.le_refl _, Nat.le_refl _⟩
  · have h := g_ff c3 h
    obtain ⟨q4, eq4, h⟩ := g_bd h
    by_cases c5 : q4.2 = 0
    · have h := g_tt c5 h
      obtain ⟨q6, eq6, h⟩ := g_bd h
      exact oX6_end_b47 h
    · have h := g_ff c5 h
      obtain ⟨q7, eq7, h⟩ := g_bd h
      have mo := oX6_end_b39 h
      exact ⟨by omega, by omega⟩

set_option maxHeartbeats 2000000 in
set_option maxRecDepth 20000 in
theorem wX6_end_b0 (hN : 193 ≤ N)  {A0 A' : gM} {u : Nat × Nat × Nat} {r : Int32} (C : gC p (g_rmx 5 u.2.1 u.2.2) s m args meth c cX6_end RX6 3 D g (va_A (gw g ad0 ln0 A0 N) s.heap.size) 5) (hr : meth.sig.returnType = some .int)  {cp k n : Nat} (hch : g_chg N ad0 ln0 ad ln cp) {A : gM} {x1 : Int32} {x2 : Int32} (h : mX6_end_b0 N cp k n A x1 x2 = some (A', u, r)) : gJ p l e (g_rmx 5 u.2.1 u.2.2) s m args below meth c (gEAi below D g N ad0 ln0 A0 A' u r args s) 3 D g (va_A (gw g ad0 ln0 A0 N) s.heap.size) N ad ln A [(0, gr 183), (1, gi x1), (2, gi x2)] k n 0 [] := by
  have hkn := oX6_end_b0 h
  unfold mX6_end_b0 at h
  refine g_aload_n C 0 dX6_end_0 rfl ?_
  refine g_iconst (v := 0) C dX6_end_1 (by decide) ?_
  obtain ⟨A1, eA1, h⟩ := g_lt h
  refine g_put C 183 0 tyX6 tyX6_ok nmX6 (by omega) rfl rfl gu_6 (by decide) qf_X6_35 rfl (by decide +kernel) (Nat.le_of_ble_eq_true rfl) rfl eA1 dX6_end_2 ?_
  refine g_aload_n C 0 dX6_end_5 rfl ?_
  refine g_iload_n C 1 dX6_end_6 rfl ?_
  obtain ⟨q2, eq2, h⟩ := g_bd h
  refine g_calliV C 183 [gi x1] (kX6_isPart hN hch.2 eq2) qs_X6_75 (by omega) (by omega) rfl rfl rfl rfl (Nat.le_of_ble_eq_true rfl) hkn dX6_end_7 ?_
  refine g_if_ne C dX6_end_10 (tgt := 19) (by decide) (fun c3 => ?_) (fun c3 => ?_)
  · have h := g_ff c3 h
    refine g_iload_n C 2 dX6_end_19 rfl ?_
    refine g_iconst (v := 0) C dX6_end_20 (by decide) ?_
    refine g_iconst (v := 1) C dX6_end_21 (by decide) ?_
    obtain ⟨q4, eq4, h⟩ := g_bd h
    refine g_calliS C [gi x2, gi 0, gi 1] (kX6_isIn hN hch.2 eq4) qs_X6_42 (by omega) rfl rfl (Nat.le_of_ble_eq_true rfl) hkn dX6_end_22 ?_
    refine g_if_eq C dX6_end_25 (tgt := 42) (by decide) (fun c5 => ?_) (fun c5 => ?_)
    · have h := g_tt c5 h
      refine g_aload_n C 0 dX6_end_42 rfl ?_
      refine g_iconst (v := 2) C dX6_end_43 (by decide) ?_
      obtain ⟨q6, eq6, h⟩ := g_bd h
      refine g_calliV C 183 [gi 2] (kX6_fail hN hch.2 eq6) qs_X6_60 (by omega) (by omega) rfl rfl rfl rfl (Nat.le_of_ble_eq_true rfl) hkn dX6_end_44 ?_
      refine g_sub [] rfl ?_
      exact wX6_end_b47 hN C hr hch h
    · have h := g_ff c5 h
      refine g_aload_n C 0 dX6_end_28 rfl ?_
      refine g_bipush (v := 7) C dX6_end_29 (by decide) ?_
      refine g_iload_n C 1 dX6_end_31 rfl ?_
      refine g_iconst (v := (-1)) C dX6_end_32 (by decide) ?_
      refine g_iconst (v := (-1)) C dX6_end_33 (by decide) ?_
      refine g_iload_n C 2 dX6_end_34 rfl ?_
      refine g_iconst (v := 3) C dX6_end_35 (by decide) ?_
      obtain ⟨q7, eq7, h⟩ := g_bd h
      have mo := oX6_end_b39 h
      refine g_callAiV C 183 [gi 7, gi x1, gi (-1), gi (-1), gi x2, gi 3] (kX6_made hN hch.2 eq7) qs_X6_67 (by omega) (by omega) rfl rfl rfl rfl (Nat.le_of_ble_eq_true rfl) ⟨mo.1, mo.2⟩ (And.intro ⟨by omega, by omega⟩ True.intro) True.intro dX6_end_36 (fun ad1 ln1 hch1 => ?_)
      have hch := g_chg.trans (by omega) hch hch1
      refine g_sub [] rfl ?_
      exact wX6_end_b39 hN C hr hch h
  · have h := g_tt c3 h
    refine g_aload_n C 0 dX6_end_13 rfl ?_
    refine g_iconst (v := 1) C dX6_end_14 (by decide) ?_
    obtain ⟨q8, eq8, h⟩ := g_bd h
    refine g_calliV C 183 [gi 1] (kX6_fail hN hch.2 eq8) qs_X6_60 (by omega) (by omega) rfl rfl rfl rfl (Nat.le_of_ble_eq_true rfl) hkn dX6_end_15 ?_
    obtain ⟨rfl, h2⟩ := Prod.mk.inj (Option.some.inj h)
    obtain ⟨rfl, rfl⟩ := Prod.mk.inj h2
    exact g_retAi C hch hr dX6_end_18

set_option maxHeartbeats 2000000 in
set_option maxRecDepth 20000 in
theorem kX6_end {l : Launch} {D : va_G} {g : gT} {N : Nat} (hN : 193 ≤ N) {ad ln : Nat → Nat} {cp : Nat} (hcp : g_cap ln cp) {A A' : gM} {x1 : Int32} {x2 : Int32} {u : Nat × Nat × Nat} {r : Int32} (h : mX6_end N cp A x1 x2 = some (A', u, r)) : gAi l yX6_end cX6_end 3 (some .int) (5) D g N ad ln A [gr 183, gi x1, gi x2] A' u r := by
  refine g_metAi (by decide) (Nat.le_of_ble_eq_true rfl) ?_
  intro p e s m args below meth c C hr
  refine g_sub [0, 1, 2] rfl ?_
  exact wX6_end_b0 hN C hr (g_chg.rf hcp) h
def mX6_either_b48 (N cp k n : Nat) (A : gM) (s0 : Int32) : Option (gM × (Nat × Nat × Nat) × Int32) :=
  some (A, (cp, k, n), s0)
def mX6_either_b43 (N cp k n : Nat) (A : gM) : Option (gM × (Nat × Nat × Nat) × Int32) :=
  (mX6_fail cp A 1).bind fun q1 =>
  mX6_either_b48 N cp k n q1.1 q1.2
def mX6_either_b40 (N cp k n : Nat) (A : gM) (s0 : Int32) : Option (gM × (Nat × Nat × Nat) × Int32) :=
  mX6_either_b48 N cp k n A s0
def mX6_either_b0 (N cp k n : Nat) (A : gM) (x1 : Int32) (x2 : Int32) (x3 : Int32) : Option (gM × (Nat × Nat × Nat) × Int32) :=
  g_let (g_up A 183 0 0) fun A1 =>
  (mX6_isPart cp A1 x1).bind fun q2 =>
  if q2.2 = 0 then
  mX6_either_b43 N cp k n q2.1
  else
  (mX6_isPart cp q2.1 x2).bind fun q4 =>
  if q4.2 = 0 then
  mX6_either_b43 N cp k n q4.1
  else
  (mX6_isPart cp q4.1 x3).bind fun q6 =>
  if q6.2 = 0 then
  mX6_either_b43 N cp k n q6.1
  else
  (mX6_made N cp q6.1 8 x1 x2 x3 (-1) 2).bind fun q8 =>
  mX6_either_b40 N q8.2.1.1 (k + q8.2.1.2.1) (n + q8.2.1.2.2) q8.1 q8.2.2
def mX6_either (N cp : Nat) (A : gM) (x1 : Int32) (x2 : Int32) (x3 : Int32) : Option (gM × (Nat × Nat × Nat) × Int32) := mX6_either_b0 N cp 0 0 A x1 x2 x3
set_option maxHeartbeats 2000000 in
set_option maxRecDepth 20000 in
theorem oX6_either_b48 {N : Nat} {A' : gM} {u : Nat × Nat × Nat} {r : Int32}  {cp k n : Nat} {A : gM} {s0 : Int32} (h : mX6_either_b48 N cp k n A s0 = some (A', u, r)) : k ≤ u.2.1 ∧ n ≤ u.2.2 := by
  unfold mX6_either_b48 at h
  obtain ⟨rfl, h2⟩ := Prod.mk.inj (Option.some.inj h)
  obtain ⟨rfl, rfl⟩ := Prod.mk.inj h2
  exact ⟨Nat.le_refl _, Nat.le_refl _⟩

set_option maxHeartbeats 2000000 in
set_option maxRecDepth 20000 in
theorem wX6_either_b48 (hN : 193 ≤ N)  {A0 A' : gM} {u : Nat × Nat × Nat} {r : Int32} (C : gC p (g_rmx 5 u.2.1 u.2.2) s m args meth c cX6_either RX6 4 D g (va_A (gw g ad0 ln0 A0 N) s.heap.size) 5) (hr : meth.sig.returnType = some .int)  {cp k n : Nat} (hch : g_chg N ad0 ln0 ad ln cp) {A : gM} {s0 : Int32} (h : mX6_either_b48 N cp k n A s0 = some (A', u, r)) : gJ p l e (g_rmx 5 u.2.1 u.2.2) s m args below meth c (gEAi below D g N ad0 ln0 A0 A' u r args s) 4 D g (va_A (gw g ad0 ln0 A0 N) s.heap.size) N ad ln A [] k n 48 [gi s0] := by
  have hkn := oX6_either_b48 h
  unfold mX6_either_b48 at h
  obtain ⟨rfl, h2⟩ := Prod.mk.inj (Option.some.inj h)
  obtain ⟨rfl, rfl⟩ := Prod.mk.inj h2
  exact g_retAi C hch hr dX6_either_48

set_option maxHeartbeats 2000000 in
set_option maxRecDepth 20000 in
theorem oX6_either_b43 {N : Nat} {A' : gM} {u : Nat × Nat × Nat} {r : Int32}  {cp k n : Nat} {A : gM} (h : mX6_either_b43 N cp k n A = some (A', u, r)) : k ≤ u.2.1 ∧ n ≤ u.2.2 := by
  unfold mX6_either_b43 at h
  obtain ⟨q1, eq1, h⟩ := g_bd h
  exact oX6_either_b48 h

set_option maxHeartbeats 2000000 in
set_option maxRecDepth 20000 in
theorem wX6_either_b43 (hN : 193 ≤ N)  {A0 A' : gM} {u : Nat × Nat × Nat} {r : Int32} (C : gC p (g_rmx 5 u.2.1 u.2.2) s m args meth c cX6_either RX6 4 D g (va_A (gw g ad0 ln0 A0 N) s.heap.size) 5) (hr : meth.sig.returnType = some .int)  {cp k n : Nat} (hch : g_chg N ad0 ln0 ad ln cp) {A : gM} (h : mX6_either_b43 N cp k n A = some (A', u, r)) : gJ p l e (g_rmx 5 u.2.1 u.2.2) s m args below meth c (gEAi below D g N ad0 ln0 A0 A' u r args s) 4 D g (va_A (gw g ad0 ln0 A0 N) s.heap.size) N ad ln A [(0, gr 183)] k n 43 [] := by
  have hkn := oX6_either_b43 h
  unfold mX6_either_b43 at h
  refine g_aload_n C 0 dX6_either_43 rfl ?_
  refine g_iconst (v := 1) C dX6_either_44 (by decide) ?_
  obtain ⟨q1, eq1, h⟩ := g_bd h
  refine g_calliV C 183 [gi 1] (kX6_fail hN hch.2 eq1) qs_X6_60 (by omega) (by omega) rfl rfl rfl rfl (Nat.le_of_ble_eq_true rfl) hkn dX6_either_45 ?_
  refine g_sub [] rfl ?_
  exact wX6_either_b48 hN C hr hch h

set_option maxHeartbeats 2000000 in
set_option maxRecDepth 20000 in
theorem oX6_either_b40 {N : Nat} {A' : gM} {u : Nat × Nat × Nat} {r : Int32}  {cp k n : Nat} {A : gM} {s0 : Int32} (h : mX6_either_b40 N cp k n A s0 = some (A', u, r)) : k ≤ u.2.1 ∧ n ≤ u.2.2 := by
  unfold mX6_either_b40 at h
  exact oX6_either_b48 h

set_option maxHeartbeats 2000000 in
set_option maxRecDepth 20000 in
theorem wX6_either_b40 (hN : 193 ≤ N)  {A0 A' : gM} {u : Nat × Nat × Nat} {r : Int32} (C : gC p (g_rmx 5 u.2.1 u.2.2) s m args meth c cX6_either RX6 4 D g (va_A (gw g ad0 ln0 A0 N) s.heap.size) 5) (hr : meth.sig.returnType = some .int)  {cp k n : Nat} (hch : g_chg N ad0 ln0 ad ln cp) {A : gM} {s0 : Int32} (h : mX6_either_b40 N cp k n A s0 = some (A', u, r)) : gJ p l e (g_rmx 5 u.2.1 u.2.2) s m args below meth c (gEAi below D g N ad0 ln0 A0 A' u r args s) 4 D g (va_A (gw g ad0 ln0 A0 N) s.heap.size) N ad ln A [] k n 40 [gi s0] := by
  have hkn := oX6_either_b40 h
  unfold mX6_either_b40 at h
  refine g_goto C dX6_either_40 (tgt := 48) (by decide) ?_
  refine g_sub [] rfl ?_
  exact wX6_either_b48 hN C hr hch h

set_option maxHeartbeats 2000000 in
set_option maxRecDepth 20000 in
theorem oX6_either_b0 {N : Nat} {A' : gM} {u : Nat × Nat × Nat} {r : Int32}  {cp k n : Nat} {A : gM} {x1 : Int32} {x2 : Int32} {x3 : Int32} (h : mX6_either_b0 N cp k n A x1 x2 x3 = some (A', u, r)) : k ≤ u.2.1 ∧ n ≤ u.2.2 := by
  unfold mX6_either_b0 at h
  obtain ⟨A1, eA1, h⟩ := g_lt h
  obtain ⟨q2, eq2, h⟩ := g_bd h
  by_cases c3 : q2.2 = 0
  · have h := g_tt c3 h
    exact oX6_either_b43 h
  · have h := g_ff c3 h
    obtain ⟨q4, eq4, h⟩ := g_bd h
    by_cases c5 : q4.2 = 0
    · have h := g_tt c5 h
      exact oX6_either_b43 h
    · have h := g_ff c5 h
      obtain ⟨q6, eq6, h⟩ := g_bd h
      by_cases c7 : q6.2 = 0
      · have h := g_tt c7 h
        exact oX6_either_b43 h
      · have h := g_ff c7 h
        obtain ⟨q8, eq8, h⟩ := g_bd h
        have mo := oX6_either_b40 h
        exact ⟨by omega, by omega⟩

set_option maxHeartbeats 2000000 in
set_option maxRecDepth 20000 in
theorem wX6_either_b0 (hN : 193 ≤ N)  {A0 A' : gM} {u : Nat × Nat × Nat} {r : Int32} (C : gC p (g_rmx 5 u.2.1 u.2.2) s m args meth c cX6_either RX6 4 D g (va_A (gw g ad0 ln0 A0 N) s.heap.size) 5) (hr : meth.sig.returnType = some .int)  {cp k n : Nat} (hch : g_chg N ad0 ln0 ad ln cp) {A : gM} {x1 : Int32} {x2 : Int32} {x3 : Int32} (h : mX6_either_b0 N cp k n A x1 x2 x3 = some (A', u, r)) : gJ p l e (g_rmx 5 u.2.1 u.2.2) s m args below meth c (gEAi below D g N ad0 ln0 A0 A' u r args s) 4 D g (va_A (gw g ad0 ln0 A0 N) s.heap.size) N ad ln A [(0, gr 183), (1, gi x1), (2, gi x2), (3, gi x3)] k n 0 [] := by
  have hkn := oX6_either_b0 h
  unfold mX6_either_b0 at h
  refine g_aload_n C 0 dX6_either_0 rfl ?_
  refine g_iconst (v := 0) C dX6_either_1 (by decide) ?_
  obtain ⟨A1, eA1, h⟩ := g_lt h
  refine g_put C 183 0 tyX6 tyX6_ok nmX6 (by omega) rfl rfl gu_6 (by decide) qf_X6_35 rfl (by decide +kernel) (Nat.le_of_ble_eq_true rfl) rfl eA1 dX6_either_2 ?_
  refine g_aload_n C 0 dX6_either_5 rfl ?_
  refine g_iload_n C 1 dX6_either_6 rfl ?_
  obtain ⟨q2, eq2, h⟩ := g_bd h
  refine g_calliV C 183 [gi x1] (kX6_isPart hN hch.2 eq2) qs_X6_75 (by omega) (by omega) rfl rfl rfl rfl (Nat.le_of_ble_eq_true rfl) hkn dX6_either_7 ?_
  refine g_if_eq C dX6_either_10 (tgt := 43) (by decide) (fun c3 => ?_) (fun c3 => ?_)
  · have h := g_tt c3 h
    refine g_sub [0] rfl ?_
    exact wX6_either_b43 hN C hr hch h
  · have h := g_ff c3 h
    refine g_aload_n C 0 dX6_either_13 rfl ?_
    refine g_iload_n C 2 dX6_either_14 rfl ?_
    obtain ⟨q4, eq4, h⟩ := g_bd h
    refine g_calliV C 183 [gi x2] (kX6_isPart hN hch.2 eq4) qs_X6_75 (by omega) (by omega) rfl rfl rfl rfl (Nat.le_of_ble_eq_true rfl) hkn dX6_either_15 ?_
    refine g_if_eq C dX6_either_18 (tgt := 43) (by decide) (fun c5 => ?_) (fun c5 => ?_)
    · have h := g_tt c5 h
      refine g_sub [0] rfl ?_
      exact wX6_either_b43 hN C hr hch h
    · have h := g_ff c5 h
      refine g_aload_n C 0 dX6_either_21 rfl ?_
      refine g_iload_n C 3 dX6_either_22 rfl ?_
      obtain ⟨q6, eq6, h⟩ := g_bd h
      refine g_calliV C 183 [gi x3] (kX6_isPart hN hch.2 eq6) qs_X6_75 (by omega) (by omega) rfl rfl rfl rfl (Nat.le_of_ble_eq_true rfl) hkn dX6_either_23 ?_
      refine g_if_eq C dX6_either_26 (tgt := 43) (by decide) (fun c7 => ?_) (fun c7 => ?_)
      · have h := g_tt c7 h
        refine g_sub [0] rfl ?_
        exact wX6_either_b43 hN C hr hch h
      · have h := g_ff c7 h
        refine g_aload_n C 0 dX6_either_29 rfl ?_
        refine g_bipush (v := 8) C dX6_either_30 (by decide) ?_
        refine g_iload_n C 1 dX6_either_32 rfl ?_
        refine g_iload_n C 2 dX6_either_33 rfl ?_
        refine g_iload_n C 3 dX6_either_34 rfl ?_
        refine g_iconst (v := (-1)) C dX6_either_35 (by decide) ?_
        refine g_iconst (v := 2) C dX6_either_36 (by decide) ?_
        obtain ⟨q8, eq8, h⟩ := g_bd h
        have mo := oX6_either_b40 h
        refine g_callAiV C 183 [gi 8, gi x1, gi x2, gi x3, gi (-1), gi 2] (kX6_made hN hch.2 eq8) qs_X6_67 (by omega) (by omega) rfl rfl rfl rfl (Nat.le_of_ble_eq_true rfl) ⟨mo.1, mo.2⟩ (And.intro ⟨by omega, by omega⟩ True.intro) True.intro dX6_either_37 (fun ad1 ln1 hch1 => ?_)
        have hch := g_chg.trans (by omega) hch hch1
        refine g_sub [] rfl ?_
        exact wX6_either_b40 hN C hr hch h

set_option maxHeartbeats 2000000 in
set_option maxRecDepth 20000 in
theorem kX6_either {l : Launch} {D : va_G} {g : gT} {N : Nat} (hN : 193 ≤ N) {ad ln : Nat → Nat} {cp : Nat} (hcp : g_cap ln cp) {A A' : gM} {x1 : Int32} {x2 : Int32} {x3 : Int32} {u : Nat × Nat × Nat} {r : Int32} (h : mX6_either N cp A x1 x2 x3 = some (A', u, r)) : gAi l yX6_either cX6_either 4 (some .int) (5) D g N ad ln A [gr 183, gi x1, gi x2, gi x3] A' u r := by
  refine g_metAi (by decide) (Nat.le_of_ble_eq_true rfl) ?_
  intro p e s m args below meth c C hr
  refine g_sub [0, 1, 2, 3] rfl ?_
  exact wX6_either_b0 hN C hr (g_chg.rf hcp) h
def mX6_used_b82 (N cp k n : Nat) (rec : Nat → gM → Int32 → Int32 → Option (gM × (Nat × Nat × Nat) × Int32)) (fu : Nat) (A : gM) (x3 : Int32) (s0 : Int32) : Option (gM × (Nat × Nat × Nat) × Int32) :=
  if g_in x3 cp = true then g_let (g_up A 189 x3.toNatClampNeg s0) fun A2 =>
  some (A2, (cp, k, n), s0)
  else none
def mX6_used_b60 (N cp k n : Nat) (rec : Nat → gM → Int32 → Int32 → Option (gM × (Nat × Nat × Nat) × Int32)) (fu : Nat) (A : gM) (s0 : Int32) : Option (gM × (Nat × Nat × Nat) × Int32) :=
  some (A, (cp, k, n), s0)
def mX6_used_b57 (N cp k n : Nat) (rec : Nat → gM → Int32 → Int32 → Option (gM × (Nat × Nat × Nat) × Int32)) (fu : Nat) (A : gM) (s1 : Int32) (s2 : Int32) (s3 : Int32) : Option (gM × (Nat × Nat × Nat) × Int32) :=
  (mX6_node N cp A s1 s2 s3).bind fun q1 =>
  mX6_used_b60 N q1.2.1.1 (k + q1.2.1.2.1) (n + q1.2.1.2.2) rec fu q1.1 q1.2.2
def mX6_used_b35 (N cp k n : Nat) (rec : Nat → gM → Int32 → Int32 → Option (gM × (Nat × Nat × Nat) × Int32)) (fu : Nat) (A : gM) (x2 : Int32) (x3 : Int32) (s0 : Int32) : Option (gM × (Nat × Nat × Nat) × Int32) :=
  if g_in x3 cp = true then
  if g_in x3 cp = true then
  (rec cp A (A 187 x3.toNatClampNeg) x2).bind fun q3 =>
  mX6_used_b57 N q3.2.1.1 (k + q3.2.1.2.1) (n + q3.2.1.2.2) rec fu q3.1 (A 185 x3.toNatClampNeg) s0 q3.2.2
  else none
  else none
def mX6_used_b0 (N cp k n : Nat) (rec : Nat → gM → Int32 → Int32 → Option (gM × (Nat × Nat × Nat) × Int32)) (fu : Nat) (A : gM) (x1 : Int32) (x2 : Int32) : Option (gM × (Nat × Nat × Nat) × Int32) :=
  (mX6_now cp A x1).bind fun q1 =>
  (mX6_hasOwn cp fu q1.1 q1.2).bind fun q2 =>
  if q2.2 = 0 then
  some (q2.1, (cp, k, n), q1.2)
  else
  (mX6_isPair cp q2.1 q1.2).bind fun q4 =>
  if q4.2 = 0 then
  if g_in q1.2 cp = true then
  if (q4.1 189 q1.2.toNatClampNeg) < x2 then
  (mX6_variable N cp q4.1).bind fun q8 =>
  mX6_used_b82 N q8.2.1.1 (k + q8.2.1.2.1) (n + q8.2.1.2.2) rec fu q8.1 q1.2 q8.2.2
  else
  if g_in q1.2 cp = true then
  some (q4.1, (cp, k, n), (q4.1 189 q1.2.toNatClampNeg))
  else none
  else none
  else
  if g_in q1.2 cp = true then
  (rec cp q4.1 (q4.1 186 q1.2.toNatClampNeg) x2).bind fun q11 =>
  mX6_used_b35 N q11.2.1.1 (k + q11.2.1.2.1) (n + q11.2.1.2.2) rec fu q11.1 x2 q1.2 q11.2.2
  else none
def mX6_used_body (N cp : Nat) (rec : Nat → gM → Int32 → Int32 → Option (gM × (Nat × Nat × Nat) × Int32)) (fu : Nat) (A : gM) (x1 : Int32) (x2 : Int32) : Option (gM × (Nat × Nat × Nat) × Int32) := mX6_used_b0 N cp 0 0 rec fu A x1 x2
def mX6_used (N : Nat) : Nat → Nat → gM → Int32 → Int32 → Option (gM × (Nat × Nat × Nat) × Int32)
  | 0 => fun _ _ _ _ => none
  | f + 1 => fun cp => mX6_used_body N cp (mX6_used N f) f
set_option maxHeartbeats 2000000 in
set_option maxRecDepth 20000 in
theorem oX6_used_b82 {N : Nat} {rec : Nat → gM → Int32 → Int32 → Option (gM × (Nat × Nat × Nat) × Int32)} {fu : Nat} {A' : gM} {u : Nat × Nat × Nat} {r : Int32}  {cp k n : Nat} {A : gM} {x3 : Int32} {s0 : Int32} (h : mX6_used_b82 N cp k n rec fu A x3 s0 = some (A', u, r)) : k ≤ u.2.1 ∧ n ≤ u.2.2 := by
  unfold mX6_used_b82 at h
  obtain ⟨hg1, h⟩ := g_gd h
  obtain ⟨A2, eA2, h⟩ := g_lt h
  obtain ⟨rfl, h2⟩ := Prod.mk.inj (Option.some.inj h)
  obtain ⟨rfl, rfl⟩ := Prod.mk.inj h2
  exact ⟨Nat.le_refl _, Nat.le_refl _⟩

set_option maxHeartbeats 2000000 in
set_option maxRecDepth 20000 in
theorem wX6_used_b82 (hN : 193 ≤ N)  {rec : Nat → gM → Int32 → Int32 → Option (gM × (Nat × Nat × Nat) × Int32)} {fu : Nat} (hrec : ∀ {ad ln : Nat → Nat} {cp : Nat} (_ : g_cap ln cp) {A A' : gM} {x1 : Int32} {x2 : Int32} {u : Nat × Nat × Nat} {r : Int32}, rec cp A x1 x2 = some (A', u, r) → gAi l yX6_used cX6_used 5 (some .int) (8 + 1 * fu) D g N ad ln A [gr 183, gi x1, gi x2] A' u r) {A0 A' : gM} {u : Nat × Nat × Nat} {r : Int32} (C : gC p (g_rmx (8 + 1 * fu + 1) u.2.1 u.2.2) s m args meth c cX6_used RX6 5 D g (va_A (gw g ad0 ln0 A0 N) s.heap.size) (8 + 1 * fu + 1)) (hr : meth.sig.returnType = some .int)  {cp k n : Nat} (hch : g_chg N ad0 ln0 ad ln cp) {A : gM} {x3 : Int32} {s0 : Int32} (h : mX6_used_b82 N cp k n rec fu A x3 s0 = some (A', u, r)) : gJ p l e (g_rmx (8 + 1 * fu + 1) u.2.1 u.2.2) s m args below meth c (gEAi below D g N ad0 ln0 A0 A' u r args s) 5 D g (va_A (gw g ad0 ln0 A0 N) s.heap.size) N ad ln A [(0, gr 183), (3, gi x3)] k n 82 [gi s0] := by
  have hkn := oX6_used_b82 h
  unfold mX6_used_b82 at h
  refine g_istore C dX6_used_82 (by decide) rfl ?_
  refine g_aload_n C 1 dX6_used_84 rfl ?_
  refine g_get (v := gr 189) C 183 8 (by omega) rfl rfl gu_6 (by decide) qf_X6_26 rfl dX6_used_85 ?_
  refine g_iload_n C 2 dX6_used_88 rfl ?_
  refine g_iload C 0 dX6_used_89 rfl ?_
  obtain ⟨hg1, h⟩ := g_gd h
  obtain ⟨A2, eA2, h⟩ := g_lt h
  refine g_iast C 189 (by omega) rfl (show g_ln ln 189 = cp from hch.2.2.2.2.2) hg1 eA2 dX6_used_91 ?_
  refine g_iload C 0 dX6_used_92 rfl ?_
  obtain ⟨rfl, h2⟩ := Prod.mk.inj (Option.some.inj h)
  obtain ⟨rfl, rfl⟩ := Prod.mk.inj h2
  exact g_retAi C hch hr dX6_used_94

set_option maxHeartbeats 2000000 in
set_option maxRecDepth 20000 in
theorem oX6_used_b60 {N : Nat} {rec : Nat → gM → Int32 → Int32 → Option (gM × (Nat × Nat × Nat) × Int32)} {fu : Nat} {A' : gM} {u : Nat × Nat × Nat} {r : Int32}  {cp k n : Nat} {A : gM} {s0 : Int32} (h : mX6_used_b60 N cp k n rec fu A s0 = some (A', u, r)) : k ≤ u.2.1 ∧ n ≤ u.2.2 := by
  unfold mX6_used_b60 at h
  obtain ⟨rfl, h2⟩ := Prod.mk.inj (Option.some.inj h)
  obtain ⟨rfl, rfl⟩ := Prod.mk.inj h2
  exact ⟨Nat.le_refl _, Nat.le_refl _⟩

set_option maxHeartbeats 2000000 in
set_option maxRecDepth 20000 in
theorem wX6_used_b60 (hN : 193 ≤ N)  {rec : Nat → gM → Int32 → Int32 → Option (gM × (Nat × Nat × Nat) × Int32)} {fu : Nat} (hrec : ∀ {ad ln : Nat → Nat} {cp : Nat} (_ : g_cap ln cp) {A A' : gM} {x1 : Int32} {x2 : Int32} {u : Nat × Nat × Nat} {r : Int32}, rec cp A x1 x2 = some (A', u, r) → gAi l yX6_used cX6_used 5 (some .int) (8 + 1 * fu) D g N ad ln A [gr 183, gi x1, gi x2] A' u r) {A0 A' : gM} {u : Nat × Nat × Nat} {r : Int32} (C : gC p (g_rmx (8 + 1 * fu + 1) u.2.1 u.2.2) s m args meth c cX6_used RX6 5 D g (va_A (gw g ad0 ln0 A0 N) s.heap.size) (8 + 1 * fu + 1)) (hr : meth.sig.returnType = some .int)  {cp k n : Nat} (hch : g_chg N ad0 ln0 ad ln cp) {A : gM} {s0 : Int32} (h : mX6_used_b60 N cp k n rec fu A s0 = some (A', u, r)) : gJ p l e (g_rmx (8 + 1 * fu + 1) u.2.1 u.2.2) s m args below meth c (gEAi below D g N ad0 ln0 A0 A' u r args s) 5 D g (va_A (gw g ad0 ln0 A0 N) s.heap.size) N ad ln A [] k n 60 [gi s0] := by
  have hkn := oX6_used_b60 h
  unfold mX6_used_b60 at h
  obtain ⟨rfl, h2⟩ := Prod.mk.inj (Option.some.inj h)
  obtain ⟨rfl, rfl⟩ := Prod.mk.inj h2
  exact g_retAi C hch hr dX6_used_60

set_option maxHeartbeats 2000000 in
set_option maxRecDepth 20000 in
theorem oX6_used_b57 {N : Nat} {rec : Nat → gM → Int32 → Int32 → Option (gM × (Nat × Nat × Nat) × Int32)} {fu : Nat} {A' : gM} {u : Nat × Nat × Nat} {r : Int32}  {cp k n : Nat} {A : gM} {s1 : Int32} {s2 : Int32} {s3 : Int32} (h : mX6_used_b57 N cp k n rec fu A s1 s2 s3 = some (A', u, r)) : k ≤ u.2.1 ∧ n ≤ u.2.2 := by
  unfold mX6_used_b57 at h
  obtain ⟨q1, eq1, h⟩ := g_bd h
  have mo := oX6_used_b60 h
  exact ⟨by omega, by omega⟩

set_option maxHeartbeats 2000000 in
set_option maxRecDepth 20000 in
theorem wX6_used_b57 (hN : 193 ≤ N)  {rec : Nat → gM → Int32 → Int32 → Option (gM × (Nat × Nat × Nat) × Int32)} {fu : Nat} (hrec : ∀ {ad ln : Nat → Nat} {cp : Nat} (_ : g_cap ln cp) {A A' : gM} {x1 : Int32} {x2 : Int32} {u : Nat × Nat × Nat} {r : Int32}, rec cp A x1 x2 = some (A', u, r) → gAi l yX6_used cX6_used 5 (some .int) (8 + 1 * fu) D g N ad ln A [gr 183, gi x1, gi x2] A' u r) {A0 A' : gM} {u : Nat × Nat × Nat} {r : Int32} (C : gC p (g_rmx (8 + 1 * fu + 1) u.2.1 u.2.2) s m args meth c cX6_used RX6 5 D g (va_A (gw g ad0 ln0 A0 N) s.heap.size) (8 + 1 * fu + 1)) (hr : meth.sig.returnType = some .int)  {cp k n : Nat} (hch : g_chg N ad0 ln0 ad ln cp) {A : gM} {s1 : Int32} {s2 : Int32} {s3 : Int32} (h : mX6_used_b57 N cp k n rec fu A s1 s2 s3 = some (A', u, r)) : gJ p l e (g_rmx (8 + 1 * fu + 1) u.2.1 u.2.2) s m args below meth c (gEAi below D g N ad0 ln0 A0 A' u r args s) 5 D g (va_A (gw g ad0 ln0 A0 N) s.heap.size) N ad ln A [] k n 57 [gi s3, gi s2, gi s1, gr 183] := by
  have hkn := oX6_used_b57 h
  unfold mX6_used_b57 at h
  obtain ⟨q1, eq1, h⟩ := g_bd h
  have mo := oX6_used_b60 h
  refine g_callAiV C 183 [gi s1, gi s2, gi s3] (kX6_node hN hch.2 eq1) qs_X6_85 (by omega) (by omega) rfl rfl rfl rfl (Nat.le_of_ble_eq_true rfl) ⟨mo.1, mo.2⟩ True.intro True.intro dX6_used_57 (fun ad1 ln1 hch1 => ?_)
  have hch := g_chg.trans (by omega) hch hch1
  refine g_sub [] rfl ?_
  exact wX6_used_b60 hN hrec C hr hch h

set_option maxHeartbeats 2000000 in
set_option maxRecDepth 20000 in
theorem oX6_used_b35 {N : Nat} {rec : Nat → gM → Int32 → Int32 → Option (gM × (Nat × Nat × Nat) × Int32)} {fu : Nat} {A' : gM} {u : Nat × Nat × Nat} {r : Int32}  {cp k n : Nat} {A : gM} {x2 : Int32} {x3 : Int32} {s0 : Int32} (h : mX6_used_b35 N cp k n rec fu A x2 x3 s0 = some (A', u, r)) : k ≤ u.2.1 ∧ n ≤ u.2.2 := by
  unfold mX6_used_b35 at h
  obtain ⟨hg1, h⟩ := g_gd h
  obtain ⟨hg2, h⟩ := g_gd h
  obtain ⟨q3, eq3, h⟩ := g_bd h
  have mo := oX6_used_b57 h
  exact ⟨by omega, by omega⟩

set_option maxHeartbeats 2000000 in
set_option maxRecDepth 20000 in
theorem wX6_used_b35 (hN : 193 ≤ N)  {rec : Nat → gM → Int32 → Int32 → Option (gM × (Nat × Nat × Nat) × Int32)} {fu : Nat} (hrec : ∀ {ad ln : Nat → Nat} {cp : Nat} (_ : g_cap ln cp) {A A' : gM} {x1 : Int32} {x2 : Int32} {u : Nat × Nat × Nat} {r : Int32}, rec cp A x1 x2 = some (A', u, r) → gAi l yX6_used cX6_used 5 (some .int) (8 + 1 * fu) D g N ad ln A [gr 183, gi x1, gi x2] A' u r) {A0 A' : gM} {u : Nat × Nat × Nat} {r : Int32} (C : gC p (g_rmx (8 + 1 * fu + 1) u.2.1 u.2.2) s m args meth c cX6_used RX6 5 D g (va_A (gw g ad0 ln0 A0 N) s.heap.size) (8 + 1 * fu + 1)) (hr : meth.sig.returnType = some .int)  {cp k n : Nat} (hch : g_chg N ad0 ln0 ad ln cp) {A : gM} {x2 : Int32} {x3 : Int32} {s0 : Int32} (h : mX6_used_b35 N cp k n rec fu A x2 x3 s0 = some (A', u, r)) : gJ p l e (g_rmx (8 + 1 * fu + 1) u.2.1 u.2.2) s m args below meth c (gEAi below D g N ad0 ln0 A0 A' u r args s) 5 D g (va_A (gw g ad0 ln0 A0 N) s.heap.size) N ad ln A [(0, gr 183), (2, gi x2), (3, gi x3)] k n 35 [gi s0] := by
  have hkn := oX6_used_b35 h
  unfold mX6_used_b35 at h
  refine g_istore C dX6_used_35 (by decide) rfl ?_
  refine g_aload_n C 1 dX6_used_37 rfl ?_
  refine g_aload_n C 1 dX6_used_38 rfl ?_
  refine g_get (v := gr 185) C 183 4 (by omega) rfl rfl gu_6 (by decide) qf_X6_13 rfl dX6_used_39 ?_
  refine g_iload_n C 3 dX6_used_42 rfl ?_
  obtain ⟨hg1, h⟩ := g_gd h
  refine g_iald C 185 (by omega) rfl (show g_ln ln 185 = cp from hch.2.1) hg1 dX6_used_43 ?_
  refine g_iload C 0 dX6_used_44 rfl ?_
  refine g_aload_n C 1 dX6_used_46 rfl ?_
  refine g_aload_n C 1 dX6_used_47 rfl ?_
  refine g_get (v := gr 187) C 183 6 (by omega) rfl rfl gu_6 (by decide) qf_X6_19 rfl dX6_used_48 ?_
  refine g_iload_n C 3 dX6_used_51 rfl ?_
  obtain ⟨hg2, h⟩ := g_gd h
  refine g_iald C 187 (by omega) rfl (show g_ln ln 187 = cp from hch.2.2.2.1) hg2 dX6_used_52 ?_
  refine g_iload_n C 2 dX6_used_53 rfl ?_
  obtain ⟨q3, eq3, h⟩ := g_bd h
  have mo := oX6_used_b57 h
  refine g_callAiV C 183 [gi (A 187 x3.toNatClampNeg), gi x2] (hrec hch.2 eq3) qs_X6_132 (by omega) (by omega) rfl rfl rfl rfl (Nat.le_of_ble_eq_true rfl) ⟨mo.1, mo.2⟩ (And.intro ⟨by omega, by omega⟩ True.intro) (And.intro ⟨by omega, by omega⟩ True.intro) dX6_used_54 (fun ad1 ln1 hch1 => ?_)
  have hch := g_chg.trans (by omega) hch hch1
  refine g_sub [] rfl ?_
  exact wX6_used_b57 hN hrec C hr hch h

set_option maxHeartbeats 2000000 in
set_option maxRecDepth 20000 in
theorem oX6_used_b0 {N : Nat} {rec : Nat → gM → Int32 → Int32 → Option (gM × (Nat × Nat × Nat) × Int32)} {fu : Nat} {A' : gM} {u : Nat × Nat × Nat} {r : Int32}  {cp k n : Nat} {A : gM} {x1 : Int32} {x2 : Int32} (h : mX6_used_b0 N cp k n rec fu A x1 x2 = some (A', u, r)) : k ≤ u.2.1 ∧ n ≤ u.2.2 := by
  unfold mX6_used_b0 at h
  obtain ⟨q1, eq1, h⟩ := g_bd h
  obtain ⟨q2, eq2, h⟩ := g_bd h
  by_cases c3 : q2.2 = 0
  · have h := g_tt c3 h
    obtain ⟨rfl, h2⟩ := Prod.mk.inj (Option.some.inj h)
    obtain ⟨rfl, rfl⟩ := Prod.mk.inj h2
    exact ⟨Nat.le_refl _, Nat.le_refl _⟩
  · have h := g_ff c3 h
    obtain ⟨q4, eq4, h⟩ := g_bd h
    by_cases c5 : q4.2 = 0
    · have h := g_tt c5 h
      obtain ⟨hg6, h⟩ := g_gd h
      by_cases c7 : (q4.1 189 q1.2.toNatClampNeg) < x2
      · have h := g_tt c7 h
        obtain ⟨q8, eq8, h⟩ := g_bd h
        have mo := oX6_used_b82 h
        exact ⟨by omega, by omega⟩
      · have h := g_ff c7 h
        obtain ⟨hg9, h⟩ := g_gd h
        obtain ⟨rfl, h2⟩ := Prod.mk.inj (Option.some.inj h)
        obtain ⟨rfl, rfl⟩ := Prod.mk.inj h2
        exact ⟨Nat.le_refl _, Nat.le_refl _⟩
    · have h := g_ff c5 h
      obtain ⟨hg10, h⟩ := g_gd h
      obtain ⟨q11, eq11, h⟩ := g_bd h
      have mo := oX6_used_b35 h
      exact ⟨by omega, by omega⟩

set_option maxHeartbeats 2000000 in
set_option maxRecDepth 20000 in
theorem wX6_used_b0 (hN : 193 ≤ N)  {rec : Nat → gM → Int32 → Int32 → Option (gM × (Nat × Nat × Nat) × Int32)} {fu : Nat} (hrec : ∀ {ad ln : Nat → Nat} {cp : Nat} (_ : g_cap ln cp) {A A' : gM} {x1 : Int32} {x2 : Int32} {u : Nat × Nat × Nat} {r : Int32}, rec cp A x1 x2 = some (A', u, r) → gAi l yX6_used cX6_used 5 (some .int) (8 + 1 * fu) D g N ad ln A [gr 183, gi x1, gi x2] A' u r) {A0 A' : gM} {u : Nat × Nat × Nat} {r : Int32} (C : gC p (g_rmx (8 + 1 * fu + 1) u.2.1 u.2.2) s m args meth c cX6_used RX6 5 D g (va_A (gw g ad0 ln0 A0 N) s.heap.size) (8 + 1 * fu + 1)) (hr : meth.sig.returnType = some .int)  {cp k n : Nat} (hch : g_chg N ad0 ln0 ad ln cp) {A : gM} {x1 : Int32} {x2 : Int32} (h : mX6_used_b0 N cp k n rec fu A x1 x2 = some (A', u, r)) : gJ p l e (g_rmx (8 + 1 * fu + 1) u.2.1 u.2.2) s m args below meth c (gEAi below D g N ad0 ln0 A0 A' u r args s) 5 D g (va_A (gw g ad0 ln0 A0 N) s.heap.size) N ad ln A [(0, gr 183), (1, gi x1), (2, gi x2)] k n 0 [] := by
  have hkn := oX6_used_b0 h
  unfold mX6_used_b0 at h
  refine g_aload_n C 0 dX6_used_0 rfl ?_
  refine g_iload_n C 1 dX6_used_1 rfl ?_
  obtain ⟨q1, eq1, h⟩ := g_bd h
  refine g_calliV C 183 [gi x1] (kX6_now hN hch.2 eq1) qs_X6_89 (by omega) (by omega) rfl rfl rfl rfl (Nat.le_of_ble_eq_true rfl) hkn dX6_used_2 ?_
  refine g_istore_n C dX6_used_5 (by decide) rfl ?_
  refine g_aload_n C 1 dX6_used_6 rfl ?_
  refine g_iload_n C 0 dX6_used_7 rfl ?_
  obtain ⟨q2, eq2, h⟩ := g_bd h
  refine g_calliV C 183 [gi q1.2] (kX6_hasOwn hN hch.2 fu eq2) qs_X6_129 (by omega) (by omega) rfl rfl rfl rfl (Nat.le_of_ble_eq_true rfl) hkn dX6_used_8 ?_
  refine g_if_ne C dX6_used_11 (tgt := 16) (by decide) (fun c3 => ?_) (fun c3 => ?_)
  · have h := g_ff c3 h
    refine g_aload_n C 1 dX6_used_16 rfl ?_
    refine g_iload_n C 0 dX6_used_17 rfl ?_
    obtain ⟨q4, eq4, h⟩ := g_bd h
    refine g_calliV C 183 [gi q1.2] (kX6_isPair hN hch.2 eq4) qs_X6_92 (by omega) (by omega) rfl rfl rfl rfl (Nat.le_of_ble_eq_true rfl) hkn dX6_used_18 ?_
    refine g_if_eq C dX6_used_21 (tgt := 61) (by decide) (fun c5 => ?_) (fun c5 => ?_)
    · have h := g_tt c5 h
      refine g_aload_n C 1 dX6_used_61 rfl ?_
      refine g_get (v := gr 189) C 183 8 (by omega) rfl rfl gu_6 (by decide) qf_X6_26 rfl dX6_used_62 ?_
      refine g_iload_n C 0 dX6_used_65 rfl ?_
      obtain ⟨hg6, h⟩ := g_gd h
      refine g_iald C 189 (by omega) rfl (show g_ln ln 189 = cp from hch.2.2.2.2.2) hg6 dX6_used_66 ?_
      refine g_iload_n C 3 dX6_used_67 rfl ?_
      refine g_icmp_lt C dX6_used_68 (tgt := 78) (by decide) (fun c7 => ?_) (fun c7 => ?_)
      · have h := g_tt c7 h
        refine g_aload_n C 1 dX6_used_78 rfl ?_
        obtain ⟨q8, eq8, h⟩ := g_bd h
        have mo := oX6_used_b82 h
        refine g_callAiV C 183 [] (kX6_variable hN hch.2 eq8) qs_X6_135 (by omega) (by omega) rfl rfl rfl rfl (Nat.le_of_ble_eq_true rfl) ⟨mo.1, mo.2⟩ (And.intro ⟨by omega, by omega⟩ True.intro) True.intro dX6_used_79 (fun ad1 ln1 hch1 => ?_)
        have hch := g_chg.trans (by omega) hch hch1
        refine g_sub [1, 0] rfl ?_
        exact wX6_used_b82 hN hrec C hr hch h
      · have h := g_ff c7 h
        refine g_aload_n C 1 dX6_used_71 rfl ?_
        refine g_get (v := gr 189) C 183 8 (by omega) rfl rfl gu_6 (by decide) qf_X6_26 rfl dX6_used_72 ?_
        refine g_iload_n C 0 dX6_used_75 rfl ?_
        obtain ⟨hg9, h⟩ := g_gd h
        refine g_iald C 189 (by omega) rfl (show g_ln ln 189 = cp from hch.2.2.2.2.2) hg9 dX6_used_76 ?_
        obtain ⟨rfl, h2⟩ := Prod.mk.inj (Option.some.inj h)
        obtain ⟨rfl, rfl⟩ := Prod.mk.inj h2
        exact g_retAi C hch hr dX6_used_77
    · have h := g_ff c5 h
      refine g_aload_n C 1 dX6_used_24 rfl ?_
      refine g_aload_n C 1 dX6_used_25 rfl ?_
      refine g_get (v := gr 186) C 183 5 (by omega) rfl rfl gu_6 (by decide) qf_X6_16 rfl dX6_used_26 ?_
      refine g_iload_n C 0 dX6_used_29 rfl ?_
      obtain ⟨hg10, h⟩ := g_gd h
      refine g_iald C 186 (by omega) rfl (show g_ln ln 186 = cp from hch.2.2.1) hg10 dX6_used_30 ?_
      refine g_iload_n C 3 dX6_used_31 rfl ?_
      obtain ⟨q11, eq11, h⟩ := g_bd h
      have mo := oX6_used_b35 h
      refine g_callAiV C 183 [gi (q4.1 186 q1.2.toNatClampNeg), gi x2] (hrec hch.2 eq11) qs_X6_132 (by omega) (by omega) rfl rfl rfl rfl (Nat.le_of_ble_eq_true rfl) ⟨mo.1, mo.2⟩ (And.intro ⟨by omega, by omega⟩ True.intro) True.intro dX6_used_32 (fun ad1 ln1 hch1 => ?_)
      have hch := g_chg.trans (by omega) hch hch1
      refine g_sub [1, 3, 0] rfl ?_
      exact wX6_used_b35 hN hrec C hr hch h
  · have h := g_tt c3 h
    refine g_iload_n C 0 dX6_used_14 rfl ?_
    obtain ⟨rfl, h2⟩ := Prod.mk.inj (Option.some.inj h)
    obtain ⟨rfl, rfl⟩ := Prod.mk.inj h2
    exact g_retAi C hch hr dX6_used_15

set_option maxHeartbeats 2000000 in
set_option maxRecDepth 20000 in
theorem kX6_used_body {l : Launch} {D : va_G} {g : gT} {N : Nat} (hN : 193 ≤ N) {rec : Nat → gM → Int32 → Int32 → Option (gM × (Nat × Nat × Nat) × Int32)} {fu : Nat} (hrec : ∀ {ad ln : Nat → Nat} {cp : Nat} (_ : g_cap ln cp) {A A' : gM} {x1 : Int32} {x2 : Int32} {u : Nat × Nat × Nat} {r : Int32}, rec cp A x1 x2 = some (A', u, r) → gAi l yX6_used cX6_used 5 (some .int) (8 + 1 * fu) D g N ad ln A [gr 183, gi x1, gi x2] A' u r) {ad ln : Nat → Nat} {cp : Nat} (hcp : g_cap ln cp) {A A' : gM} {x1 : Int32} {x2 : Int32} {u : Nat × Nat × Nat} {r : Int32} (h : mX6_used_body N cp rec fu A x1 x2 = some (A', u, r)) : gAi l yX6_used cX6_used 5 (some .int) ((8 + 1 * fu + 1)) D g N ad ln A [gr 183, gi x1, gi x2] A' u r := by
  refine g_metAi (by decide) (Nat.le_of_ble_eq_true rfl) ?_
  intro p e s m args below meth c C hr
  refine g_sub [0, 1, 2] rfl ?_
  exact wX6_used_b0 hN hrec C hr (g_chg.rf hcp) h
set_option maxHeartbeats 2000000 in
set_option maxRecDepth 20000 in
theorem kX6_used {l : Launch} {D : va_G} {g : gT} {N : Nat} (hN : 193 ≤ N) : ∀ (f : Nat) {ad ln : Nat → Nat} {cp : Nat} (_ : g_cap ln cp) {A A' : gM} {x1 : Int32} {x2 : Int32} {u : Nat × Nat × Nat} {r : Int32}, mX6_used N f cp A x1 x2 = some (A', u, r) → gAi l yX6_used cX6_used 5 (some .int) (8 + 1 * f) D g N ad ln A [gr 183, gi x1, gi x2] A' u r
  | 0, ad, ln, cp, hcp, A, A', x1, x2, u, r, h => by cases h
  | f + 1, ad, ln, cp, hcp, A, A', x1, x2, u, r, h => kX6_used_body hN (fun {ad ln} {cp} hcp {A A'} {x1} {x2} {u} {r} h => kX6_used hN f hcp h) hcp h
def mX6_nameFound_b40 (N cp k n : Nat) (A : gM) (s0 : Int32) : Option (gM × (Nat × Nat × Nat) × Int32) :=
  some (A, (cp, k, n), s0)
def mX6_nameFound_b7 (N cp k n : Nat) (K7 : Nat → Nat → Nat → gM → Int32 → Int32 → Option (gM × (Nat × Nat × Nat) × Int32)) (A : gM) (x1 : Int32) (x2 : Int32) : Option (gM × (Nat × Nat × Nat) × Int32) :=
  if x2 < 0 then
  (mX6_failed cp A 1 x1).bind fun q2 =>
  some (q2.1, (cp, k, n), q2.2)
  else
  if g_in x2 61 = true then
  (mX6_pa cp A x1 4).bind fun q4 =>
  if (A 190 x2.toNatClampNeg) = q4.2 then
  if g_in x2 61 = true then
  (mX6_used N 1250 cp q4.1 (q4.1 191 x2.toNatClampNeg) (q4.1 183 3)).bind fun q8 =>
  mX6_nameFound_b40 N q8.2.1.1 (k + q8.2.1.2.1) (n + q8.2.1.2.2) q8.1 q8.2.2
  else none
  else
  g_let (x2 + (-1)) fun v6 =>
  K7 cp k n q4.1 x1 v6
  else none
def mX6_nameFound_L7 (N : Nat) : Nat → Nat → Nat → Nat → gM → Int32 → Int32 → Option (gM × (Nat × Nat × Nat) × Int32)
  | 0 => fun _ _ _ _ _ _ => none
  | f + 1 => fun cp k n => mX6_nameFound_b7 N cp k n (mX6_nameFound_L7 N f)
def mX6_nameFound_b0 (N cp k n : Nat) (A : gM) (x1 : Int32) : Option (gM × (Nat × Nat × Nat) × Int32) :=
  g_let ((A 183 9) - 1) fun v1 =>
  mX6_nameFound_L7 N gF cp k n A x1 v1
def mX6_nameFound (N cp : Nat) (A : gM) (x1 : Int32) : Option (gM × (Nat × Nat × Nat) × Int32) := mX6_nameFound_b0 N cp 0 0 A x1
set_option maxHeartbeats 2000000 in
set_option maxRecDepth 20000 in
theorem oX6_nameFound_b40 {N : Nat} {A' : gM} {u : Nat × Nat × Nat} {r : Int32}  {cp k n : Nat} {A : gM} {s0 : Int32} (h : mX6_nameFound_b40 N cp k n A s0 = some (A', u, r)) : k ≤ u.2.1 ∧ n ≤ u.2.2 := by
  unfold mX6_nameFound_b40 at h
  obtain ⟨rfl, h2⟩ := Prod.mk.inj (Option.some.inj h)
  obtain ⟨rfl, rfl⟩ := Prod.mk.inj h2
  exact ⟨Nat.le_refl _, Nat.le_refl _⟩

set_option maxHeartbeats 2000000 in
set_option maxRecDepth 20000 in
theorem wX6_nameFound_b40 (hN : 193 ≤ N)  {A0 A' : gM} {u : Nat × Nat × Nat} {r : Int32} (C : gC p (g_rmx 1259 u.2.1 u.2.2) s m args meth c cX6_nameFound RX6 3 D g (va_A (gw g ad0 ln0 A0 N) s.heap.size) 1259) (hr : meth.sig.returnType = some .int)  {cp k n : Nat} (hch : g_chg N ad0 ln0 ad ln cp) {A : gM} {s0 : Int32} (h : mX6_nameFound_b40 N cp k n A s0 = some (A', u, r)) : gJ p l e (g_rmx 1259 u.2.1 u.2.2) s m args below meth c (gEAi below D g N ad0 ln0 A0 A' u r args s) 3 D g (va_A (gw g ad0 ln0 A0 N) s.heap.size) N ad ln A [] k n 40 [gi s0] := by
  have hkn := oX6_nameFound_b40 h
  unfold mX6_nameFound_b40 at h
  obtain ⟨rfl, h2⟩ := Prod.mk.inj (Option.some.inj h)
  obtain ⟨rfl, rfl⟩ := Prod.mk.inj h2
  exact g_retAi C hch hr dX6_nameFound_40

set_option maxHeartbeats 2000000 in
set_option maxRecDepth 20000 in
theorem oX6_nameFound_b7 {N : Nat} {A' : gM} {u : Nat × Nat × Nat} {r : Int32} {K7 : Nat → Nat → Nat → gM → Int32 → Int32 → Option (gM × (Nat × Nat × Nat) × Int32)} (oK7 : ∀ {cp k n : Nat} {A : gM} {x1 : Int32} {x2 : Int32}, K7 cp k n A x1 x2 = some (A', u, r) → k ≤ u.2.1 ∧ n ≤ u.2.2) {cp k n : Nat} {A : gM} {x1 : Int32} {x2 : Int32} (h : mX6_nameFound_b7 N cp k n K7 A x1 x2 = some (A', u, r)) : k ≤ u.2.1 ∧ n ≤ u.2.2 := by
  unfold mX6_nameFound_b7 at h
  by_cases c1 : x2 < 0
  · have h := g_tt c1 h
    obtain ⟨q2, eq2, h⟩ := g_bd h
    obtain ⟨rfl, h2⟩ := Prod.mk.inj (Option.some.inj h)
    obtain ⟨rfl, rfl⟩ := Prod.mk.inj h2
    exact ⟨Nat.le_refl _, Nat.le_refl _⟩
  · have h := g_ff c1 h
    obtain ⟨hg3, h⟩ := g_gd h
    obtain ⟨q4, eq4, h⟩ := g_bd h
    by_cases c5 : (A 190 x2.toNatClampNeg) = q4.2
    · have h := g_tt c5 h
      obtain ⟨hg7, h⟩ := g_gd h
      obtain ⟨q8, eq8, h⟩ := g_bd h
      have mo := oX6_nameFound_b40 h
      exact ⟨by omega, by omega⟩
    · have h := g_ff c5 h
      obtain ⟨v6, ev6, h⟩ := g_lt h
      exact oK7 h

set_option maxHeartbeats 2000000 in
set_option maxRecDepth 20000 in
theorem wX6_nameFound_b7 (hN : 193 ≤ N)  {A0 A' : gM} {u : Nat × Nat × Nat} {r : Int32} (C : gC p (g_rmx 1259 u.2.1 u.2.2) s m args meth c cX6_nameFound RX6 3 D g (va_A (gw g ad0 ln0 A0 N) s.heap.size) 1259) (hr : meth.sig.returnType = some .int) {K7 : Nat → Nat → Nat → gM → Int32 → Int32 → Option (gM × (Nat × Nat × Nat) × Int32)} (hK7 : ∀ {ad ln : Nat → Nat} {cp k n : Nat} (_ : g_chg N ad0 ln0 ad ln cp) {A : gM} {x1 : Int32} {x2 : Int32}, K7 cp k n A x1 x2 = some (A', u, r) → gJ p l e (g_rmx 1259 u.2.1 u.2.2) s m args below meth c (gEAi below D g N ad0 ln0 A0 A' u r args s) 3 D g (va_A (gw g ad0 ln0 A0 N) s.heap.size) N ad ln A [(0, gr 183), (1, gi x1), (2, gi x2)] k n 7 []) (oK7 : ∀ {cp k n : Nat} {A : gM} {x1 : Int32} {x2 : Int32}, K7 cp k n A x1 x2 = some (A', u, r) → k ≤ u.2.1 ∧ n ≤ u.2.2) {cp k n : Nat} (hch : g_chg N ad0 ln0 ad ln cp) {A : gM} {x1 : Int32} {x2 : Int32} (h : mX6_nameFound_b7 N cp k n K7 A x1 x2 = some (A', u, r)) : gJ p l e (g_rmx 1259 u.2.1 u.2.2) s m args below meth c (gEAi below D g N ad0 ln0 A0 A' u r args s) 3 D g (va_A (gw g ad0 ln0 A0 N) s.heap.size) N ad ln A [(0, gr 183), (1, gi x1), (2, gi x2)] k n 7 [] := by
  have hkn := oX6_nameFound_b7 oK7 h
  unfold mX6_nameFound_b7 at h
  refine g_iload_n C 2 dX6_nameFound_7 rfl ?_
  refine g_if_lt C dX6_nameFound_8 (tgt := 47) (by decide) (fun c1 => ?_) (fun c1 => ?_)
  · have h := g_tt c1 h
    refine g_aload_n C 0 dX6_nameFound_47 rfl ?_
    refine g_iconst (v := 1) C dX6_nameFound_48 (by decide) ?_
    refine g_iload_n C 1 dX6_nameFound_49 rfl ?_
    obtain ⟨q2, eq2, h⟩ := g_bd h
    refine g_calliV C 183 [gi 1, gi x1] (kX6_failed hN hch.2 eq2) qs_X6_105 (by omega) (by omega) rfl rfl rfl rfl (Nat.le_of_ble_eq_true rfl) hkn dX6_nameFound_50 ?_
    obtain ⟨rfl, h2⟩ := Prod.mk.inj (Option.some.inj h)
    obtain ⟨rfl, rfl⟩ := Prod.mk.inj h2
    exact g_retAi C hch hr dX6_nameFound_53
  · have h := g_ff c1 h
    refine g_aload_n C 0 dX6_nameFound_11 rfl ?_
    refine g_get (v := gr 190) C 183 10 (by omega) rfl rfl gu_6 (by decide) qf_X6_29 rfl dX6_nameFound_12 ?_
    refine g_iload_n C 2 dX6_nameFound_15 rfl ?_
    obtain ⟨hg3, h⟩ := g_gd h
    refine g_iald C 190 (by omega) rfl rfl hg3 dX6_nameFound_16 ?_
    refine g_aload_n C 0 dX6_nameFound_17 rfl ?_
    refine g_iload_n C 1 dX6_nameFound_18 rfl ?_
    refine g_iconst (v := 4) C dX6_nameFound_19 (by decide) ?_
    obtain ⟨q4, eq4, h⟩ := g_bd h
    refine g_calliV C 183 [gi x1, gi 4] (kX6_pa hN hch.2 eq4) qs_X6_46 (by omega) (by omega) rfl rfl rfl rfl (Nat.le_of_ble_eq_true rfl) hkn dX6_nameFound_20 ?_
    refine g_icmp_ne C dX6_nameFound_23 (tgt := 41) (by decide) (fun c5 => ?_) (fun c5 => ?_)
    · have h := g_ff c5 h
      obtain ⟨v6, ev6, h⟩ := g_lt h
      refine g_iinc C 2 dX6_nameFound_41 rfl ev6 (by decide) rfl ?_
      refine g_goto C dX6_nameFound_44 (tgt := 7) (by decide) ?_
      refine g_sub [1, 2, 0] rfl ?_
      exact hK7 hch h
    · have h := g_tt c5 h
      refine g_aload_n C 0 dX6_nameFound_26 rfl ?_
      refine g_aload_n C 0 dX6_nameFound_27 rfl ?_
      refine g_get (v := gr 191) C 183 11 (by omega) rfl rfl gu_6 (by decide) qf_X6_32 rfl dX6_nameFound_28 ?_
      refine g_iload_n C 2 dX6_nameFound_31 rfl ?_
      obtain ⟨hg7, h⟩ := g_gd h
      refine g_iald C 191 (by omega) rfl rfl hg7 dX6_nameFound_32 ?_
      refine g_aload_n C 0 dX6_nameFound_33 rfl ?_
      refine g_get (v := gi (q4.1 183 3)) C 183 3 (by omega) rfl rfl gu_6 (by decide) qf_X6_78 rfl dX6_nameFound_34 ?_
      obtain ⟨q8, eq8, h⟩ := g_bd h
      have mo := oX6_nameFound_b40 h
      refine g_callAiV C 183 [gi (q4.1 191 x2.toNatClampNeg), gi (q4.1 183 3)] (kX6_used hN 1250 hch.2 eq8) qs_X6_132 (by omega) (by omega) rfl rfl rfl rfl (Nat.le_of_ble_eq_true rfl) ⟨mo.1, mo.2⟩ (And.intro ⟨by omega, by omega⟩ True.intro) True.intro dX6_nameFound_37 (fun ad1 ln1 hch1 => ?_)
      have hch := g_chg.trans (by omega) hch hch1
      refine g_sub [] rfl ?_
      exact wX6_nameFound_b40 hN C hr hch h

set_option maxHeartbeats 2000000 in
set_option maxRecDepth 20000 in
theorem oX6_nameFound_L7 {N : Nat} {A' : gM} {u : Nat × Nat × Nat} {r : Int32}  : ∀ (f : Nat) {cp k n : Nat} {A : gM} {x1 : Int32} {x2 : Int32}, mX6_nameFound_L7 N f cp k n A x1 x2 = some (A', u, r) → k ≤ u.2.1 ∧ n ≤ u.2.2
  | 0, _, _, _, A, x1, x2, h => by cases h
  | f + 1, cp, k, n, A, x1, x2, h => oX6_nameFound_b7 (K7 := mX6_nameFound_L7 N f) (fun h => oX6_nameFound_L7 f h) h
set_option maxHeartbeats 2000000 in
set_option maxRecDepth 20000 in
theorem wX6_nameFound_L7 (hN : 193 ≤ N)  {A0 A' : gM} {u : Nat × Nat × Nat} {r : Int32} (C : gC p (g_rmx 1259 u.2.1 u.2.2) s m args meth c cX6_nameFound RX6 3 D g (va_A (gw g ad0 ln0 A0 N) s.heap.size) 1259) (hr : meth.sig.returnType = some .int)  : ∀ (f : Nat) {ad ln : Nat → Nat} {cp k n : Nat} (_ : g_chg N ad0 ln0 ad ln cp) {A : gM} {x1 : Int32} {x2 : Int32}, mX6_nameFound_L7 N f cp k n A x1 x2 = some (A', u, r) → gJ p l e (g_rmx 1259 u.2.1 u.2.2) s m args below meth c (gEAi below D g N ad0 ln0 A0 A' u r args s) 3 D g (va_A (gw g ad0 ln0 A0 N) s.heap.size) N ad ln A [(0, gr 183), (1, gi x1), (2, gi x2)] k n 7 []
  | 0, ad, ln, cp, k, n, hch, A, x1, x2, h => by cases h
  | f + 1, ad, ln, cp, k, n, hch, A, x1, x2, h => wX6_nameFound_b7 (K7 := mX6_nameFound_L7 N f) hN C hr (fun {ad ln} {cp k n} hch {A} {x1} {x2} h => wX6_nameFound_L7 hN C hr f hch h) (fun h => oX6_nameFound_L7 f h) hch h
set_option maxHeartbeats 2000000 in
set_option maxRecDepth 20000 in
theorem oX6_nameFound_b0 {N : Nat} {A' : gM} {u : Nat × Nat × Nat} {r : Int32}  {cp k n : Nat} {A : gM} {x1 : Int32} (h : mX6_nameFound_b0 N cp k n A x1 = some (A', u, r)) : k ≤ u.2.1 ∧ n ≤ u.2.2 := by
  unfold mX6_nameFound_b0 at h
  obtain ⟨v1, ev1, h⟩ := g_lt h
  exact oX6_nameFound_L7 gF h

set_option maxHeartbeats 2000000 in
set_option maxRecDepth 20000 in
theorem wX6_nameFound_b0 (hN : 193 ≤ N)  {A0 A' : gM} {u : Nat × Nat × Nat} {r : Int32} (C : gC p (g_rmx 1259 u.2.1 u.2.2) s m args meth c cX6_nameFound RX6 3 D g (va_A (gw g ad0 ln0 A0 N) s.heap.size) 1259) (hr : meth.sig.returnType = some .int)  {cp k n : Nat} (hch : g_chg N ad0 ln0 ad ln cp) {A : gM} {x1 : Int32} (h : mX6_nameFound_b0 N cp k n A x1 = some (A', u, r)) : gJ p l e (g_rmx 1259 u.2.1 u.2.2) s m args below meth c (gEAi below D g N ad0 ln0 A0 A' u r args s) 3 D g (va_A (gw g ad0 ln0 A0 N) s.heap.size) N ad ln A [(0, gr 183), (1, gi x1)] k n 0 [] := by
  have hkn := oX6_nameFound_b0 h
  unfold mX6_nameFound_b0 at h
  refine g_aload_n C 0 dX6_nameFound_0 rfl ?_
  refine g_get (v := gi (A 183 9)) C 183 9 (by omega) rfl rfl gu_6 (by decide) qf_X6_119 rfl dX6_nameFound_1 ?_
  refine g_iconst (v := 1) C dX6_nameFound_4 (by decide) ?_
  refine g_isub C dX6_nameFound_5 ?_
  obtain ⟨v1, ev1, h⟩ := g_lt h
  refine g_topi ev1 ?_
  refine g_istore_n C dX6_nameFound_6 (by decide) rfl ?_
  refine g_sub [1, 2, 0] rfl ?_
  exact wX6_nameFound_L7 hN C hr gF hch h

set_option maxHeartbeats 2000000 in
set_option maxRecDepth 20000 in
theorem kX6_nameFound {l : Launch} {D : va_G} {g : gT} {N : Nat} (hN : 193 ≤ N) {ad ln : Nat → Nat} {cp : Nat} (hcp : g_cap ln cp) {A A' : gM} {x1 : Int32} {u : Nat × Nat × Nat} {r : Int32} (h : mX6_nameFound N cp A x1 = some (A', u, r)) : gAi l yX6_nameFound cX6_nameFound 3 (some .int) (1259) D g N ad ln A [gr 183, gi x1] A' u r := by
  refine g_metAi (by decide) (Nat.le_of_ble_eq_true rfl) ?_
  intro p e s m args below meth c C hr
  refine g_sub [0, 1] rfl ?_
  exact wX6_nameFound_b0 hN C hr (g_chg.rf hcp) h
end M3
