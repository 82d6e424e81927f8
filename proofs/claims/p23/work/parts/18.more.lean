theorem qa_int : Cond.arrayClass .int ∈ gtb := g_tb (List.mem_of_getElem? (i := 69) (by decide +kernel)) (by decide +kernel)
theorem qm_L_58 : g_siteM RL 58 Lib.Math.min.name Lib.Math.min.code := ⟨g_tb (List.mem_of_getElem? (i := 618) (by decide +kernel)) (by decide +kernel), g_tb (List.mem_of_getElem? (i := 334) (by decide +kernel)) (by decide +kernel), g_tb (List.mem_of_getElem? (i := 39) (by decide +kernel)) (by decide +kernel), g_tb (List.mem_of_getElem? (i := 335) (by decide +kernel)) (by decide +kernel)⟩
theorem qs_L_63 : g_site RL RX5 63 yX5_plain cX5_plain 2 (some .int) 1 := ⟨g_tb (List.mem_of_getElem? (i := 182) (by decide +kernel)) (by decide +kernel), g_tb (List.mem_of_getElem? (i := 183) (by decide +kernel)) (by decide +kernel), g_tb (List.mem_of_getElem? (i := 184) (by decide +kernel)) (by decide +kernel), g_tb (List.mem_of_getElem? (i := 33) (by decide +kernel)) (by decide +kernel), g_tb (List.mem_of_getElem? (i := 185) (by decide +kernel)) (by decide +kernel), ⟨rfl, by decide, by decide, by decide +kernel⟩, by decide⟩
theorem qs_L_67 : g_site RL RX5 67 yX5_name cX5_name 2 (some .int) 1 := ⟨g_tb (List.mem_of_getElem? (i := 487) (by decide +kernel)) (by decide +kernel), g_tb (List.mem_of_getElem? (i := 488) (by decide +kernel)) (by decide +kernel), g_tb (List.mem_of_getElem? (i := 489) (by decide +kernel)) (by decide +kernel), g_tb (List.mem_of_getElem? (i := 33) (by decide +kernel)) (by decide +kernel), g_tb (List.mem_of_getElem? (i := 490) (by decide +kernel)) (by decide +kernel), ⟨rfl, by decide, by decide, by decide +kernel⟩, by decide⟩
theorem qs_L_70 : g_site RL RX5 70 yX5_wheel cX5_wheel 3 (some .int) 2 := ⟨g_tb (List.mem_of_getElem? (i := 491) (by decide +kernel)) (by decide +kernel), g_tb (List.mem_of_getElem? (i := 492) (by decide +kernel)) (by decide +kernel), g_tb (List.mem_of_getElem? (i := 493) (by decide +kernel)) (by decide +kernel), g_tb (List.mem_of_getElem? (i := 33) (by decide +kernel)) (by decide +kernel), g_tb (List.mem_of_getElem? (i := 494) (by decide +kernel)) (by decide +kernel), ⟨rfl, by decide, by decide, by decide +kernel⟩, by decide⟩
theorem qs_L_73 : g_site RL RX5 73 yX5_turn cX5_turn 3 (some .int) 2 := ⟨g_tb (List.mem_of_getElem? (i := 518) (by decide +kernel)) (by decide +kernel), g_tb (List.mem_of_getElem? (i := 519) (by decide +kernel)) (by decide +kernel), g_tb (List.mem_of_getElem? (i := 520) (by decide +kernel)) (by decide +kernel), g_tb (List.mem_of_getElem? (i := 33) (by decide +kernel)) (by decide +kernel), g_tb (List.mem_of_getElem? (i := 521) (by decide +kernel)) (by decide +kernel), ⟨rfl, by decide, by decide, by decide +kernel⟩, by decide⟩
theorem qs_L_76 : g_site RL RX5 76 yX5_tell cX5_tell 4 (some .int) 3 := ⟨g_tb (List.mem_of_getElem? (i := 522) (by decide +kernel)) (by decide +kernel), g_tb (List.mem_of_getElem? (i := 523) (by decide +kernel)) (by decide +kernel), g_tb (List.mem_of_getElem? (i := 524) (by decide +kernel)) (by decide +kernel), g_tb (List.mem_of_getElem? (i := 33) (by decide +kernel)) (by decide +kernel), g_tb (List.mem_of_getElem? (i := 525) (by decide +kernel)) (by decide +kernel), ⟨rfl, by decide, by decide, by decide +kernel⟩, by decide⟩
theorem qs_L_80 : g_site RL RX5 80 yX5_axle cX5_axle 3 (some .int) 2 := ⟨g_tb (List.mem_of_getElem? (i := 526) (by decide +kernel)) (by decide +kernel), g_tb (List.mem_of_getElem? (i := 527) (by decide +kernel)) (by decide +kernel), g_tb (List.mem_of_getElem? (i := 528) (by decide +kernel)) (by decide +kernel), g_tb (List.mem_of_getElem? (i := 33) (by decide +kernel)) (by decide +kernel), g_tb (List.mem_of_getElem? (i := 529) (by decide +kernel)) (by decide +kernel), ⟨rfl, by decide, by decide, by decide +kernel⟩, by decide⟩
theorem qs_L_83 : g_site RL RX5 83 yX5_end cX5_end 3 (some .int) 2 := ⟨g_tb (List.mem_of_getElem? (i := 530) (by decide +kernel)) (by decide +kernel), g_tb (List.mem_of_getElem? (i := 531) (by decide +kernel)) (by decide +kernel), g_tb (List.mem_of_getElem? (i := 532) (by decide +kernel)) (by decide +kernel), g_tb (List.mem_of_getElem? (i := 33) (by decide +kernel)) (by decide +kernel), g_tb (List.mem_of_getElem? (i := 533) (by decide +kernel)) (by decide +kernel), ⟨rfl, by decide, by decide, by decide +kernel⟩, by decide⟩
theorem qs_L_86 : g_site RL RX5 86 yX5_either cX5_either 4 (some .int) 3 := ⟨g_tb (List.mem_of_getElem? (i := 534) (by decide +kernel)) (by decide +kernel), g_tb (List.mem_of_getElem? (i := 535) (by decide +kernel)) (by decide +kernel), g_tb (List.mem_of_getElem? (i := 536) (by decide +kernel)) (by decide +kernel), g_tb (List.mem_of_getElem? (i := 33) (by decide +kernel)) (by decide +kernel), g_tb (List.mem_of_getElem? (i := 537) (by decide +kernel)) (by decide +kernel), ⟨rfl, by decide, by decide, by decide +kernel⟩, by decide⟩
theorem qs_L_55 : g_siteS RL 55 yL_below cL_below 2 (some .int) 2 := ⟨g_tb (List.mem_of_getElem? (i := 603) (by decide +kernel)) (by decide +kernel), g_tb (List.mem_of_getElem? (i := 604) (by decide +kernel)) (by decide +kernel), g_tb (List.mem_of_getElem? (i := 32) (by decide +kernel)) (by decide +kernel), g_tb (List.mem_of_getElem? (i := 605) (by decide +kernel)) (by decide +kernel), ⟨rfl, by decide, by decide, by decide +kernel⟩, by decide⟩
theorem qcl_61 : Cond.classLink RL 61 (FieldType.array .int).toString ∈ gtb := g_tb (List.mem_of_getElem? (i := 614) (by decide +kernel)) (by decide +kernel)
theorem dL_more_0 : decode cL_more 0 = .ok (.aload_n 1, 1) := by decide +kernel
theorem dL_more_1 : decode cL_more 1 = .ok (.arraylength, 1) := by decide +kernel
theorem dL_more_2 : decode cL_more 2 = .ok (.istore_n 3, 1) := by decide +kernel
theorem dL_more_3 : decode cL_more 3 = .ok (.iconst 3, 1) := by decide +kernel
theorem dL_more_4 : decode cL_more 4 = .ok (.newarray .int, 2) := by decide +kernel
theorem dL_more_6 : decode cL_more 6 = .ok (.astore 4, 2) := by decide +kernel
theorem dL_more_8 : decode cL_more 8 = .ok (.iconst 0, 1) := by decide +kernel
theorem dL_more_9 : decode cL_more 9 = .ok (.istore 5, 2) := by decide +kernel
theorem dL_more_11 : decode cL_more 11 = .ok (.iload 5, 2) := by decide +kernel
theorem dL_more_13 : decode cL_more 13 = .ok (.iconst 3, 1) := by decide +kernel
theorem dL_more_14 : decode cL_more 14 = .ok (.if_icmp .ge 60, 3) := by decide +kernel
theorem dL_more_17 : decode cL_more 17 = .ok (.iload_n 3, 1) := by decide +kernel
theorem dL_more_18 : decode cL_more 18 = .ok (.ifCond .le 56, 3) := by decide +kernel
theorem dL_more_21 : decode cL_more 21 = .ok (.aload 4, 2) := by decide +kernel
theorem dL_more_23 : decode cL_more 23 = .ok (.iload 5, 2) := by decide +kernel
theorem dL_more_25 : decode cL_more 25 = .ok (.iload_n 2, 1) := by decide +kernel
theorem dL_more_26 : decode cL_more 26 = .ok (.iload 5, 2) := by decide +kernel
theorem dL_more_28 : decode cL_more 28 = .ok (.ishr, 1) := by decide +kernel
theorem dL_more_29 : decode cL_more 29 = .ok (.iconst 3, 1) := by decide +kernel
theorem dL_more_30 : decode cL_more 30 = .ok (.invokestatic 55, 3) := by decide +kernel
theorem dL_more_33 : decode cL_more 33 = .ok (.ifCond .ne 16, 3) := by decide +kernel
theorem dL_more_36 : decode cL_more 36 = .ok (.iload_n 2, 1) := by decide +kernel
theorem dL_more_37 : decode cL_more 37 = .ok (.iconst 2, 1) := by decide +kernel
theorem dL_more_38 : decode cL_more 38 = .ok (.iload 5, 2) := by decide +kernel
theorem dL_more_40 : decode cL_more 40 = .ok (.imul, 1) := by decide +kernel
theorem dL_more_41 : decode cL_more 41 = .ok (.ishr, 1) := by decide +kernel
theorem dL_more_42 : decode cL_more 42 = .ok (.iload_n 3, 1) := by decide +kernel
theorem dL_more_43 : decode cL_more 43 = .ok (.invokestatic 55, 3) := by decide +kernel
theorem dL_more_46 : decode cL_more 46 = .ok (.goto 21, 3) := by decide +kernel
theorem dL_more_49 : decode cL_more 49 = .ok (.iload_n 3, 1) := by decide +kernel
theorem dL_more_50 : decode cL_more 50 = .ok (.iconst 1, 1) := by decide +kernel
theorem dL_more_51 : decode cL_more 51 = .ok (.isub, 1) := by decide +kernel
theorem dL_more_52 : decode cL_more 52 = .ok (.iload_n 2, 1) := by decide +kernel
theorem dL_more_53 : decode cL_more 53 = .ok (.iconst 3, 1) := by decide +kernel
theorem dL_more_54 : decode cL_more 54 = .ok (.iload 5, 2) := by decide +kernel
theorem dL_more_56 : decode cL_more 56 = .ok (.imul, 1) := by decide +kernel
theorem dL_more_57 : decode cL_more 57 = .ok (.ishr, 1) := by decide +kernel
theorem dL_more_58 : decode cL_more 58 = .ok (.iload_n 3, 1) := by decide +kernel
theorem dL_more_59 : decode cL_more 59 = .ok (.iconst 4, 1) := by decide +kernel
theorem dL_more_60 : decode cL_more 60 = .ok (.invokestatic 58, 3) := by decide +kernel
theorem dL_more_63 : decode cL_more 63 = .ok (.invokestatic 55, 3) := by decide +kernel
theorem dL_more_66 : decode cL_more 66 = .ok (.isub, 1) := by decide +kernel
theorem dL_more_67 : decode cL_more 67 = .ok (.iastore, 1) := by decide +kernel
theorem dL_more_68 : decode cL_more 68 = .ok (.iinc 5 1, 3) := by decide +kernel
theorem dL_more_71 : decode cL_more 71 = .ok (.goto (-60), 3) := by decide +kernel
theorem dL_more_74 : decode cL_more 74 = .ok (.iload_n 3, 1) := by decide +kernel
theorem dL_more_75 : decode cL_more 75 = .ok (.ifCond .ne 11, 3) := by decide +kernel
theorem dL_more_78 : decode cL_more 78 = .ok (.iload_n 2, 1) := by decide +kernel
theorem dL_more_79 : decode cL_more 79 = .ok (.iconst 3, 1) := by decide +kernel
theorem dL_more_80 : decode cL_more 80 = .ok (.invokestatic 55, 3) := by decide +kernel
theorem dL_more_83 : decode cL_more 83 = .ok (.goto 32, 3) := by decide +kernel
theorem dL_more_86 : decode cL_more 86 = .ok (.iload_n 2, 1) := by decide +kernel
theorem dL_more_87 : decode cL_more 87 = .ok (.iconst 5, 1) := by decide +kernel
theorem dL_more_88 : decode cL_more 88 = .ok (.ishr, 1) := by decide +kernel
theorem dL_more_89 : decode cL_more 89 = .ok (.iconst 3, 1) := by decide +kernel
theorem dL_more_90 : decode cL_more 90 = .ok (.invokestatic 55, 3) := by decide +kernel
theorem dL_more_93 : decode cL_more 93 = .ok (.ifCond .ne 11, 3) := by decide +kernel
theorem dL_more_96 : decode cL_more 96 = .ok (.iload_n 2, 1) := by decide +kernel
theorem dL_more_97 : decode cL_more 97 = .ok (.iconst 3, 1) := by decide +kernel
theorem dL_more_98 : decode cL_more 98 = .ok (.invokestatic 55, 3) := by decide +kernel
theorem dL_more_101 : decode cL_more 101 = .ok (.goto 14, 3) := by decide +kernel
theorem dL_more_104 : decode cL_more 104 = .ok (.iconst 3, 1) := by decide +kernel
theorem dL_more_105 : decode cL_more 105 = .ok (.iload_n 2, 1) := by decide +kernel
theorem dL_more_106 : decode cL_more 106 = .ok (.bipush 9, 2) := by decide +kernel
theorem dL_more_108 : decode cL_more 108 = .ok (.ishr, 1) := by decide +kernel
theorem dL_more_109 : decode cL_more 109 = .ok (.bipush 6, 2) := by decide +kernel
theorem dL_more_111 : decode cL_more 111 = .ok (.invokestatic 55, 3) := by decide +kernel
theorem dL_more_114 : decode cL_more 114 = .ok (.iadd, 1) := by decide +kernel
theorem dL_more_115 : decode cL_more 115 = .ok (.istore 5, 2) := by decide +kernel
theorem dL_more_117 : decode cL_more 117 = .ok (.iload_n 2, 1) := by decide +kernel
theorem dL_more_118 : decode cL_more 118 = .ok (.iconst 4, 1) := by decide +kernel
theorem dL_more_119 : decode cL_more 119 = .ok (.ishr, 1) := by decide +kernel
theorem dL_more_120 : decode cL_more 120 = .ok (.iconst 3, 1) := by decide +kernel
theorem dL_more_121 : decode cL_more 121 = .ok (.invokestatic 55, 3) := by decide +kernel
theorem dL_more_124 : decode cL_more 124 = .ok (.istore 6, 2) := by decide +kernel
theorem dL_more_126 : decode cL_more 126 = .ok (.iconst 5, 1) := by decide +kernel
theorem dL_more_127 : decode cL_more 127 = .ok (.newarray .int, 2) := by decide +kernel
theorem dL_more_129 : decode cL_more 129 = .ok (.dup, 1) := by decide +kernel
theorem dL_more_130 : decode cL_more 130 = .ok (.iconst 0, 1) := by decide +kernel
theorem dL_more_131 : decode cL_more 131 = .ok (.iload 5, 2) := by decide +kernel
theorem dL_more_133 : decode cL_more 133 = .ok (.iastore, 1) := by decide +kernel
theorem dL_more_134 : decode cL_more 134 = .ok (.dup, 1) := by decide +kernel
theorem dL_more_135 : decode cL_more 135 = .ok (.iconst 1, 1) := by decide +kernel
theorem dL_more_136 : decode cL_more 136 = .ok (.iconst (-1), 1) := by decide +kernel
theorem dL_more_137 : decode cL_more 137 = .ok (.iastore, 1) := by decide +kernel
theorem dL_more_138 : decode cL_more 138 = .ok (.dup, 1) := by decide +kernel
theorem dL_more_139 : decode cL_more 139 = .ok (.iconst 2, 1) := by decide +kernel
theorem dL_more_140 : decode cL_more 140 = .ok (.iconst (-1), 1) := by decide +kernel
theorem dL_more_141 : decode cL_more 141 = .ok (.iastore, 1) := by decide +kernel
theorem dL_more_142 : decode cL_more 142 = .ok (.dup, 1) := by decide +kernel
theorem dL_more_143 : decode cL_more 143 = .ok (.iconst 3, 1) := by decide +kernel
theorem dL_more_144 : decode cL_more 144 = .ok (.iconst (-1), 1) := by decide +kernel
theorem dL_more_145 : decode cL_more 145 = .ok (.iastore, 1) := by decide +kernel
theorem dL_more_146 : decode cL_more 146 = .ok (.dup, 1) := by decide +kernel
theorem dL_more_147 : decode cL_more 147 = .ok (.iconst 4, 1) := by decide +kernel
theorem dL_more_148 : decode cL_more 148 = .ok (.iconst (-1), 1) := by decide +kernel
theorem dL_more_149 : decode cL_more 149 = .ok (.iastore, 1) := by decide +kernel
theorem dL_more_150 : decode cL_more 150 = .ok (.astore 7, 2) := by decide +kernel
theorem dL_more_152 : decode cL_more 152 = .ok (.iload 5, 2) := by decide +kernel
theorem dL_more_154 : decode cL_more 154 = .ok (.iconst 3, 1) := by decide +kernel
theorem dL_more_155 : decode cL_more 155 = .ok (.if_icmp .ge 7, 3) := by decide +kernel
theorem dL_more_158 : decode cL_more 158 = .ok (.iconst 0, 1) := by decide +kernel
theorem dL_more_159 : decode cL_more 159 = .ok (.goto 32, 3) := by decide +kernel
theorem dL_more_162 : decode cL_more 162 = .ok (.iload 5, 2) := by decide +kernel
theorem dL_more_164 : decode cL_more 164 = .ok (.iconst 3, 1) := by decide +kernel
theorem dL_more_165 : decode cL_more 165 = .ok (.if_icmp .eq 10, 3) := by decide +kernel
theorem dL_more_168 : decode cL_more 168 = .ok (.iload 5, 2) := by decide +kernel
theorem dL_more_170 : decode cL_more 170 = .ok (.bipush 7, 2) := by decide +kernel
theorem dL_more_172 : decode cL_more 172 = .ok (.if_icmp .ne 7, 3) := by decide +kernel
theorem dL_more_175 : decode cL_more 175 = .ok (.iconst 1, 1) := by decide +kernel
theorem dL_more_176 : decode cL_more 176 = .ok (.goto 15, 3) := by decide +kernel
theorem dL_more_179 : decode cL_more 179 = .ok (.iload 5, 2) := by decide +kernel
theorem dL_more_181 : decode cL_more 181 = .ok (.bipush 8, 2) := by decide +kernel
theorem dL_more_183 : decode cL_more 183 = .ok (.if_icmp .ne 7, 3) := by decide +kernel
theorem dL_more_186 : decode cL_more 186 = .ok (.iconst 3, 1) := by decide +kernel
theorem dL_more_187 : decode cL_more 187 = .ok (.goto 4, 3) := by decide +kernel
theorem dL_more_190 : decode cL_more 190 = .ok (.iconst 2, 1) := by decide +kernel
theorem dL_more_191 : decode cL_more 191 = .ok (.istore 8, 2) := by decide +kernel
theorem dL_more_193 : decode cL_more 193 = .ok (.iconst 0, 1) := by decide +kernel
theorem dL_more_194 : decode cL_more 194 = .ok (.istore 9, 2) := by decide +kernel
theorem dL_more_196 : decode cL_more 196 = .ok (.iload 9, 2) := by decide +kernel
theorem dL_more_198 : decode cL_more 198 = .ok (.iload 8, 2) := by decide +kernel
theorem dL_more_200 : decode cL_more 200 = .ok (.if_icmp .ge 21, 3) := by decide +kernel
theorem dL_more_203 : decode cL_more 203 = .ok (.aload 7, 2) := by decide +kernel
theorem dL_more_205 : decode cL_more 205 = .ok (.iconst 1, 1) := by decide +kernel
theorem dL_more_206 : decode cL_more 206 = .ok (.iload 9, 2) := by decide +kernel
theorem dL_more_208 : decode cL_more 208 = .ok (.iadd, 1) := by decide +kernel
theorem dL_more_209 : decode cL_more 209 = .ok (.aload 4, 2) := by decide +kernel
theorem dL_more_211 : decode cL_more 211 = .ok (.iload 9, 2) := by decide +kernel
theorem dL_more_213 : decode cL_more 213 = .ok (.iaload, 1) := by decide +kernel
theorem dL_more_214 : decode cL_more 214 = .ok (.iastore, 1) := by decide +kernel
theorem dL_more_215 : decode cL_more 215 = .ok (.iinc 9 1, 3) := by decide +kernel
theorem dL_more_218 : decode cL_more 218 = .ok (.goto (-22), 3) := by decide +kernel
theorem dL_more_221 : decode cL_more 221 = .ok (.iload 5, 2) := by decide +kernel
theorem dL_more_223 : decode cL_more 223 = .ok (.iconst 2, 1) := by decide +kernel
theorem dL_more_224 : decode cL_more 224 = .ok (.if_icmp .eq 15, 3) := by decide +kernel
theorem dL_more_227 : decode cL_more 227 = .ok (.iload 5, 2) := by decide +kernel
theorem dL_more_229 : decode cL_more 229 = .ok (.iconst 3, 1) := by decide +kernel
theorem dL_more_230 : decode cL_more 230 = .ok (.if_icmp .eq 9, 3) := by decide +kernel
theorem dL_more_233 : decode cL_more 233 = .ok (.iload 5, 2) := by decide +kernel
theorem dL_more_235 : decode cL_more 235 = .ok (.iconst 5, 1) := by decide +kernel
theorem dL_more_236 : decode cL_more 236 = .ok (.if_icmp .ne 9, 3) := by decide +kernel
theorem dL_more_239 : decode cL_more 239 = .ok (.aload 7, 2) := by decide +kernel
theorem dL_more_241 : decode cL_more 241 = .ok (.iconst 4, 1) := by decide +kernel
theorem dL_more_242 : decode cL_more 242 = .ok (.iload 6, 2) := by decide +kernel
theorem dL_more_244 : decode cL_more 244 = .ok (.iastore, 1) := by decide +kernel
theorem dL_more_245 : decode cL_more 245 = .ok (.iload 5, 2) := by decide +kernel
theorem dL_more_247 : decode cL_more 247 = .ok (.bipush 7, 2) := by decide +kernel
theorem dL_more_249 : decode cL_more 249 = .ok (.if_icmp .ne 14, 3) := by decide +kernel
theorem dL_more_252 : decode cL_more 252 = .ok (.aload 7, 2) := by decide +kernel
theorem dL_more_254 : decode cL_more 254 = .ok (.iconst 4, 1) := by decide +kernel
theorem dL_more_255 : decode cL_more 255 = .ok (.iload_n 2, 1) := by decide +kernel
theorem dL_more_256 : decode cL_more 256 = .ok (.iconst 4, 1) := by decide +kernel
theorem dL_more_257 : decode cL_more 257 = .ok (.ishr, 1) := by decide +kernel
theorem dL_more_258 : decode cL_more 258 = .ok (.iconst 2, 1) := by decide +kernel
theorem dL_more_259 : decode cL_more 259 = .ok (.invokestatic 55, 3) := by decide +kernel
theorem dL_more_262 : decode cL_more 262 = .ok (.iastore, 1) := by decide +kernel
theorem dL_more_263 : decode cL_more 263 = .ok (.iload_n 3, 1) := by decide +kernel
theorem dL_more_264 : decode cL_more 264 = .ok (.iconst 1, 1) := by decide +kernel
theorem dL_more_265 : decode cL_more 265 = .ok (.iadd, 1) := by decide +kernel
theorem dL_more_266 : decode cL_more 266 = .ok (.anewarray 61, 3) := by decide +kernel
theorem dL_more_269 : decode cL_more 269 = .ok (.astore 9, 2) := by decide +kernel
theorem dL_more_271 : decode cL_more 271 = .ok (.iconst 0, 1) := by decide +kernel
theorem dL_more_272 : decode cL_more 272 = .ok (.istore 10, 2) := by decide +kernel
theorem dL_more_274 : decode cL_more 274 = .ok (.iload 10, 2) := by decide +kernel
theorem dL_more_276 : decode cL_more 276 = .ok (.iload_n 3, 1) := by decide +kernel
theorem dL_more_277 : decode cL_more 277 = .ok (.if_icmp .ge 18, 3) := by decide +kernel
theorem dL_more_280 : decode cL_more 280 = .ok (.aload 9, 2) := by decide +kernel
theorem dL_more_282 : decode cL_more 282 = .ok (.iload 10, 2) := by decide +kernel
theorem dL_more_284 : decode cL_more 284 = .ok (.aload_n 1, 1) := by decide +kernel
theorem dL_more_285 : decode cL_more 285 = .ok (.iload 10, 2) := by decide +kernel
theorem dL_more_287 : decode cL_more 287 = .ok (.aaload, 1) := by decide +kernel
theorem dL_more_288 : decode cL_more 288 = .ok (.aastore, 1) := by decide +kernel
theorem dL_more_289 : decode cL_more 289 = .ok (.iinc 10 1, 3) := by decide +kernel
theorem dL_more_292 : decode cL_more 292 = .ok (.goto (-18), 3) := by decide +kernel
theorem dL_more_295 : decode cL_more 295 = .ok (.aload 9, 2) := by decide +kernel
theorem dL_more_297 : decode cL_more 297 = .ok (.iload_n 3, 1) := by decide +kernel
theorem dL_more_298 : decode cL_more 298 = .ok (.aload 7, 2) := by decide +kernel
theorem dL_more_300 : decode cL_more 300 = .ok (.aastore, 1) := by decide +kernel
theorem dL_more_301 : decode cL_more 301 = .ok (.iload_n 3, 1) := by decide +kernel
theorem dL_more_302 : decode cL_more 302 = .ok (.bipush 40, 2) := by decide +kernel
theorem dL_more_304 : decode cL_more 304 = .ok (.if_icmp .eq 14, 3) := by decide +kernel
theorem dL_more_307 : decode cL_more 307 = .ok (.aload 9, 2) := by decide +kernel
theorem dL_more_309 : decode cL_more 309 = .ok (.iload_n 3, 1) := by decide +kernel
theorem dL_more_310 : decode cL_more 310 = .ok (.invokestatic 26, 3) := by decide +kernel
theorem dL_more_313 : decode cL_more 313 = .ok (.bipush 24, 2) := by decide +kernel
theorem dL_more_315 : decode cL_more 315 = .ok (.if_icmp .le 5, 3) := by decide +kernel
theorem dL_more_318 : decode cL_more 318 = .ok (.aload_n 1, 1) := by decide +kernel
theorem dL_more_319 : decode cL_more 319 = .ok (.areturn, 1) := by decide +kernel
theorem dL_more_320 : decode cL_more 320 = .ok (.iload 5, 2) := by decide +kernel
theorem dL_more_322 : decode cL_more 322 = .ok (.iconst 2, 1) := by decide +kernel
theorem dL_more_323 : decode cL_more 323 = .ok (.if_icmp .ge 12, 3) := by decide +kernel
theorem dL_more_326 : decode cL_more 326 = .ok (.aload_n 0, 1) := by decide +kernel
theorem dL_more_327 : decode cL_more 327 = .ok (.iload 5, 2) := by decide +kernel
theorem dL_more_329 : decode cL_more 329 = .ok (.invokevirtual 63, 3) := by decide +kernel
theorem dL_more_332 : decode cL_more 332 = .ok (.goto 141, 3) := by decide +kernel
theorem dL_more_335 : decode cL_more 335 = .ok (.iload 5, 2) := by decide +kernel
theorem dL_more_337 : decode cL_more 337 = .ok (.iconst 2, 1) := by decide +kernel
theorem dL_more_338 : decode cL_more 338 = .ok (.if_icmp .ne 12, 3) := by decide +kernel
theorem dL_more_341 : decode cL_more 341 = .ok (.aload_n 0, 1) := by decide +kernel
theorem dL_more_342 : decode cL_more 342 = .ok (.iload 6, 2) := by decide +kernel
theorem dL_more_344 : decode cL_more 344 = .ok (.invokevirtual 67, 3) := by decide +kernel
theorem dL_more_347 : decode cL_more 347 = .ok (.goto 126, 3) := by decide +kernel
theorem dL_more_350 : decode cL_more 350 = .ok (.iload 5, 2) := by decide +kernel
theorem dL_more_352 : decode cL_more 352 = .ok (.iconst 3, 1) := by decide +kernel
theorem dL_more_353 : decode cL_more 353 = .ok (.if_icmp .ne 16, 3) := by decide +kernel
theorem dL_more_356 : decode cL_more 356 = .ok (.aload_n 0, 1) := by decide +kernel
theorem dL_more_357 : decode cL_more 357 = .ok (.iload 6, 2) := by decide +kernel
theorem dL_more_359 : decode cL_more 359 = .ok (.aload 4, 2) := by decide +kernel
theorem dL_more_361 : decode cL_more 361 = .ok (.iconst 0, 1) := by decide +kernel
theorem dL_more_362 : decode cL_more 362 = .ok (.iaload, 1) := by decide +kernel
theorem dL_more_363 : decode cL_more 363 = .ok (.invokevirtual 70, 3) := by decide +kernel
theorem dL_more_366 : decode cL_more 366 = .ok (.goto 107, 3) := by decide +kernel
theorem dL_more_369 : decode cL_more 369 = .ok (.iload 5, 2) := by decide +kernel
theorem dL_more_371 : decode cL_more 371 = .ok (.iconst 4, 1) := by decide +kernel
theorem dL_more_372 : decode cL_more 372 = .ok (.if_icmp .ne 18, 3) := by decide +kernel
theorem dL_more_375 : decode cL_more 375 = .ok (.aload_n 0, 1) := by decide +kernel
theorem dL_more_376 : decode cL_more 376 = .ok (.aload 4, 2) := by decide +kernel
theorem dL_more_378 : decode cL_more 378 = .ok (.iconst 0, 1) := by decide +kernel
theorem dL_more_379 : decode cL_more 379 = .ok (.iaload, 1) := by decide +kernel
theorem dL_more_380 : decode cL_more 380 = .ok (.aload 4, 2) := by decide +kernel
theorem dL_more_382 : decode cL_more 382 = .ok (.iconst 1, 1) := by decide +kernel
theorem dL_more_383 : decode cL_more 383 = .ok (.iaload, 1) := by decide +kernel
theorem dL_more_384 : decode cL_more 384 = .ok (.invokevirtual 73, 3) := by decide +kernel
theorem dL_more_387 : decode cL_more 387 = .ok (.goto 86, 3) := by decide +kernel
theorem dL_more_390 : decode cL_more 390 = .ok (.iload 5, 2) := by decide +kernel
theorem dL_more_392 : decode cL_more 392 = .ok (.iconst 5, 1) := by decide +kernel
theorem dL_more_393 : decode cL_more 393 = .ok (.if_icmp .ne 20, 3) := by decide +kernel
theorem dL_more_396 : decode cL_more 396 = .ok (.aload_n 0, 1) := by decide +kernel
theorem dL_more_397 : decode cL_more 397 = .ok (.iload 6, 2) := by decide +kernel
theorem dL_more_399 : decode cL_more 399 = .ok (.aload 4, 2) := by decide +kernel
theorem dL_more_401 : decode cL_more 401 = .ok (.iconst 0, 1) := by decide +kernel
theorem dL_more_402 : decode cL_more 402 = .ok (.iaload, 1) := by decide +kernel
theorem dL_more_403 : decode cL_more 403 = .ok (.aload 4, 2) := by decide +kernel
theorem dL_more_405 : decode cL_more 405 = .ok (.iconst 1, 1) := by decide +kernel
theorem dL_more_406 : decode cL_more 406 = .ok (.iaload, 1) := by decide +kernel
theorem dL_more_407 : decode cL_more 407 = .ok (.invokevirtual 76, 3) := by decide +kernel
theorem dL_more_410 : decode cL_more 410 = .ok (.goto 63, 3) := by decide +kernel
theorem dL_more_413 : decode cL_more 413 = .ok (.iload 5, 2) := by decide +kernel
theorem dL_more_415 : decode cL_more 415 = .ok (.bipush 6, 2) := by decide +kernel
theorem dL_more_417 : decode cL_more 417 = .ok (.if_icmp .ne 18, 3) := by decide +kernel
theorem dL_more_420 : decode cL_more 420 = .ok (.aload_n 0, 1) := by decide +kernel
theorem dL_more_421 : decode cL_more 421 = .ok (.aload 4, 2) := by decide +kernel
theorem dL_more_423 : decode cL_more 423 = .ok (.iconst 0, 1) := by decide +kernel
theorem dL_more_424 : decode cL_more 424 = .ok (.iaload, 1) := by decide +kernel
theorem dL_more_425 : decode cL_more 425 = .ok (.aload 4, 2) := by decide +kernel
theorem dL_more_427 : decode cL_more 427 = .ok (.iconst 1, 1) := by decide +kernel
theorem dL_more_428 : decode cL_more 428 = .ok (.iaload, 1) := by decide +kernel
theorem dL_more_429 : decode cL_more 429 = .ok (.invokevirtual 80, 3) := by decide +kernel
theorem dL_more_432 : decode cL_more 432 = .ok (.goto 41, 3) := by decide +kernel
theorem dL_more_435 : decode cL_more 435 = .ok (.iload 5, 2) := by decide +kernel
theorem dL_more_437 : decode cL_more 437 = .ok (.bipush 7, 2) := by decide +kernel
theorem dL_more_439 : decode cL_more 439 = .ok (.if_icmp .ne 18, 3) := by decide +kernel
theorem dL_more_442 : decode cL_more 442 = .ok (.aload_n 0, 1) := by decide +kernel
theorem dL_more_443 : decode cL_more 443 = .ok (.aload 4, 2) := by decide +kernel
theorem dL_more_445 : decode cL_more 445 = .ok (.iconst 0, 1) := by decide +kernel
theorem dL_more_446 : decode cL_more 446 = .ok (.iaload, 1) := by decide +kernel
theorem dL_more_447 : decode cL_more 447 = .ok (.aload 7, 2) := by decide +kernel
theorem dL_more_449 : decode cL_more 449 = .ok (.iconst 4, 1) := by decide +kernel
theorem dL_more_450 : decode cL_more 450 = .ok (.iaload, 1) := by decide +kernel
theorem dL_more_451 : decode cL_more 451 = .ok (.invokevirtual 83, 3) := by decide +kernel
theorem dL_more_454 : decode cL_more 454 = .ok (.goto 19, 3) := by decide +kernel
theorem dL_more_457 : decode cL_more 457 = .ok (.aload_n 0, 1) := by decide +kernel
theorem dL_more_458 : decode cL_more 458 = .ok (.aload 4, 2) := by decide +kernel
theorem dL_more_460 : decode cL_more 460 = .ok (.iconst 0, 1) := by decide +kernel
theorem dL_more_461 : decode cL_more 461 = .ok (.iaload, 1) := by decide +kernel
theorem dL_more_462 : decode cL_more 462 = .ok (.aload 4, 2) := by decide +kernel
theorem dL_more_464 : decode cL_more 464 = .ok (.iconst 1, 1) := by decide +kernel
theorem dL_more_465 : decode cL_more 465 = .ok (.iaload, 1) := by decide +kernel
theorem dL_more_466 : decode cL_more 466 = .ok (.aload 4, 2) := by decide +kernel
theorem dL_more_468 : decode cL_more 468 = .ok (.iconst 2, 1) := by decide +kernel
theorem dL_more_469 : decode cL_more 469 = .ok (.iaload, 1) := by decide +kernel
theorem dL_more_470 : decode cL_more 470 = .ok (.invokevirtual 86, 3) := by decide +kernel
theorem dL_more_473 : decode cL_more 473 = .ok (.istore 10, 2) := by decide +kernel
theorem dL_more_475 : decode cL_more 475 = .ok (.iload 10, 2) := by decide +kernel
theorem dL_more_477 : decode cL_more 477 = .ok (.iload_n 3, 1) := by decide +kernel
theorem dL_more_478 : decode cL_more 478 = .ok (.if_icmp .ne 8, 3) := by decide +kernel
theorem dL_more_481 : decode cL_more 481 = .ok (.aload 9, 2) := by decide +kernel
theorem dL_more_483 : decode cL_more 483 = .ok (.goto 4, 3) := by decide +kernel
theorem dL_more_486 : decode cL_more 486 = .ok (.aconst_null, 1) := by decide +kernel
theorem dL_more_487 : decode cL_more 487 = .ok (.areturn, 1) := by decide +kernel
section L18
variable {p : Program} {l : Launch} {e : Env} {R : Room} {s : State} {m : MethodId} {args : Array Value} {below : List Frame} {meth : Method} {c : Code} {D : va_G} {g : gT} {ad0 ln0 ad ln : Nat → Nat} {N0 : Nat} {A0 : gM} {b L : Nat} {xs : Nat → Int32}
def mL_more_b318 (xs : Nat → Int32) (L : Nat) (N : Nat) (ln : Nat → Nat) (k n : Nat) (A : gM) (x1 : Nat) : Option (Nat × (Nat → Nat) × gM × Nat) :=
  if k ≤ 20 ∧ n ≤ 300 then some (N, ln, A, x1) else none
def mL_more_b473 (xs : Nat → Int32) (L : Nat) (N : Nat) (ln : Nat → Nat) (k n : Nat) (A : gM) (x3 : Int32) (x9 : Nat) (s0 : Int32) : Option (Nat × (Nat → Nat) × gM × Nat) :=
  if s0 = x3 then
  if k ≤ 20 ∧ n ≤ 300 then some (N, ln, A, x9) else none
  else
  none
def mL_more_b274 (xs : Nat → Int32) (L : Nat) (K274 : Nat → (Nat → Nat) → Nat → Nat → gM → Nat → Int32 → Nat → Int32 → Int32 → Nat → Nat → Int32 → Option (Nat × (Nat → Nat) × gM × Nat)) (N : Nat) (ln : Nat → Nat) (k n : Nat) (A : gM) (x1 : Nat) (x3 : Int32) (x4 : Nat) (x5 : Int32) (x6 : Int32) (x7 : Nat) (x9 : Nat) (x10 : Int32) : Option (Nat × (Nat → Nat) × gM × Nat) :=
  if x3 ≤ x10 then
  if (x9 < N ∧ 183 ≤ x9 ∧ 1000 ≤ ln x9 ∧ x9 ≤ 2000000) ∧ g_in x3 (ln x9 - 1000) = true ∧ x7 < x9 ∧ 183 ≤ x7 ∧ ln x7 < 1000 then g_let (g_up A x9 x3.toNatClampNeg (nI x7)) fun A3 =>
  if x3 = 40 then
  mL_more_b318 xs L N ln k n A3 x1
  else
  if (k + 0 ≤ 20 ∧ n + 0 ≤ 300) ∧ x1 < N ∧ x4 < N ∧ x7 < N ∧ x9 < N then g_cp (mL_size xs L 60 N ln A3 x9 x3) fun N9 ln10 A8 r7 => if N ≤ N9 then if r7 ≤ 24 then
  if 2 ≤ x5 then
  if x5 = 2 then
  if (k + 0) + 2 ≤ 20 ∧ (n + 0) + 6 * 2 ≤ 300 then g_cx (mX5_name A8 x6) fun A57 r58 =>
  mL_more_b473 xs L N9 ln10 ((k + 0) + 2) ((n + 0) + 6 * 2) A57 x3 x9 r58
  else none
  else
  if x5 = 3 then
  if (x4 < N9 ∧ 183 ≤ x4 ∧ ln10 x4 < 1000) ∧ g_in 0 (ln10 x4) = true then
  if (k + 0) + 3 ≤ 20 ∧ (n + 0) + 6 * 3 ≤ 300 then g_cx (mX5_wheel A8 x6 (A8 x4 (0 : Int32).toNatClampNeg)) fun A53 r54 =>
  mL_more_b473 xs L N9 ln10 ((k + 0) + 3) ((n + 0) + 6 * 3) A53 x3 x9 r54
  else none
  else none
  else
  if x5 = 4 then
  if (x4 < N9 ∧ 183 ≤ x4 ∧ ln10 x4 < 1000) ∧ g_in 0 (ln10 x4) = true then
  if (x4 < N9 ∧ 183 ≤ x4 ∧ ln10 x4 < 1000) ∧ g_in 1 (ln10 x4) = true then
  if (k + 0) + 3 ≤ 20 ∧ (n + 0) + 6 * 3 ≤ 300 then g_cx (mX5_turn A8 (A8 x4 (0 : Int32).toNatClampNeg) (A8 x4 (1 : Int32).toNatClampNeg)) fun A48 r49 =>
  mL_more_b473 xs L N9 ln10 ((k + 0) + 3) ((n + 0) + 6 * 3) A48 x3 x9 r49
  else none
  else none
  else none
  else
  if x5 = 5 then
  if (x4 < N9 ∧ 183 ≤ x4 ∧ ln10 x4 < 1000) ∧ g_in 0 (ln10 x4) = true then
  if (x4 < N9 ∧ 183 ≤ x4 ∧ ln10 x4 < 1000) ∧ g_in 1 (ln10 x4) = true then
  if (k + 0) + 4 ≤ 20 ∧ (n + 0) + 6 * 4 ≤ 300 then g_cx (mX5_tell A8 x6 (A8 x4 (0 : Int32).toNatClampNeg) (A8 x4 (1 : Int32).toNatClampNeg)) fun A42 r43 =>
  mL_more_b473 xs L N9 ln10 ((k + 0) + 4) ((n + 0) + 6 * 4) A42 x3 x9 r43
  else none
  else none
  else none
  else
  if x5 = 6 then
  if (x4 < N9 ∧ 183 ≤ x4 ∧ ln10 x4 < 1000) ∧ g_in 0 (ln10 x4) = true then
  if (x4 < N9 ∧ 183 ≤ x4 ∧ ln10 x4 < 1000) ∧ g_in 1 (ln10 x4) = true then
  if (k + 0) + 3 ≤ 20 ∧ (n + 0) + 6 * 3 ≤ 300 then g_cx (mX5_axle A8 (A8 x4 (0 : Int32).toNatClampNeg) (A8 x4 (1 : Int32).toNatClampNeg)) fun A36 r37 =>
  mL_more_b473 xs L N9 ln10 ((k + 0) + 3) ((n + 0) + 6 * 3) A36 x3 x9 r37
  else none
  else none
  else none
  else
  if x5 = 7 then
  if (x4 < N9 ∧ 183 ≤ x4 ∧ ln10 x4 < 1000) ∧ g_in 0 (ln10 x4) = true then
  if (x7 < N9 ∧ 183 ≤ x7 ∧ ln10 x7 < 1000) ∧ g_in 4 (ln10 x7) = true then
  if (k + 0) + 3 ≤ 20 ∧ (n + 0) + 6 * 3 ≤ 300 then g_cx (mX5_end A8 (A8 x4 (0 : Int32).toNatClampNeg) (A8 x7 (4 : Int32).toNatClampNeg)) fun A30 r31 =>
  mL_more_b473 xs L N9 ln10 ((k + 0) + 3) ((n + 0) + 6 * 3) A30 x3 x9 r31
  else none
  else none
  else none
  else
  if (x4 < N9 ∧ 183 ≤ x4 ∧ ln10 x4 < 1000) ∧ g_in 0 (ln10 x4) = true then
  if (x4 < N9 ∧ 183 ≤ x4 ∧ ln10 x4 < 1000) ∧ g_in 1 (ln10 x4) = true then
  if (x4 < N9 ∧ 183 ≤ x4 ∧ ln10 x4 < 1000) ∧ g_in 2 (ln10 x4) = true then
  if (k + 0) + 4 ≤ 20 ∧ (n + 0) + 6 * 4 ≤ 300 then g_cx (mX5_either A8 (A8 x4 (0 : Int32).toNatClampNeg) (A8 x4 (1 : Int32).toNatClampNeg) (A8 x4 (2 : Int32).toNatClampNeg)) fun A24 r25 =>
  mL_more_b473 xs L N9 ln10 ((k + 0) + 4) ((n + 0) + 6 * 4) A24 x3 x9 r25
  else none
  else none
  else none
  else none
  else
  if (k + 0) + 2 ≤ 20 ∧ (n + 0) + 6 * 2 ≤ 300 then g_cx (mX5_plain A8 x5) fun A61 r62 =>
  mL_more_b473 xs L N9 ln10 ((k + 0) + 2) ((n + 0) + 6 * 2) A61 x3 x9 r62
  else none
  else
  mL_more_b318 xs L N9 ln10 (k + 0) (n + 0) A8 x1
  else none
  else none
  else none
  else
  if (x1 < N ∧ 183 ≤ x1 ∧ 1000 ≤ ln x1) ∧ g_in x10 (ln x1 - 1000) = true ∧ ¬ (A x1 x10.toNatClampNeg < 0 ∨ x1 ≤ (A x1 x10.toNatClampNeg).toNatClampNeg) then g_let (A x1 x10.toNatClampNeg).toNatClampNeg fun w64 =>
  if (x9 < N ∧ 183 ≤ x9 ∧ 1000 ≤ ln x9 ∧ x9 ≤ 2000000) ∧ g_in x10 (ln x9 - 1000) = true ∧ w64 < x9 ∧ 183 ≤ w64 ∧ ln w64 < 1000 then g_let (g_up A x9 x10.toNatClampNeg (nI w64)) fun A66 =>
  g_let (x10 + 1) fun v67 =>
  K274 N ln k n A66 x1 x3 x4 x5 x6 x7 x9 v67
  else none
  else none
def mL_more_L274 (xs : Nat → Int32) (L : Nat) : Nat → Nat → (Nat → Nat) → Nat → Nat → gM → Nat → Int32 → Nat → Int32 → Int32 → Nat → Nat → Int32 → Option (Nat × (Nat → Nat) × gM × Nat)
  | 0 => fun _ _ _ _ _ _ _ _ _ _ _ _ _ => none
  | f + 1 => fun N ln k n A x1 x3 x4 x5 x6 x7 x9 x10 => mL_more_b274 xs L (mL_more_L274 xs L f) N ln k n A x1 x3 x4 x5 x6 x7 x9 x10
def mL_more_b263 (xs : Nat → Int32) (L : Nat) (N : Nat) (ln : Nat → Nat) (k n : Nat) (A : gM) (x1 : Nat) (x3 : Int32) (x4 : Nat) (x5 : Int32) (x6 : Int32) (x7 : Nat) : Option (Nat × (Nat → Nat) × gM × Nat) :=
  if ((x3 + 1).toNatClampNeg < 1000 ∧ ¬ (x3 + 1) < 0) ∧ (k + 1 ≤ 20 ∧ n + (x3 + 1).toNatClampNeg ≤ 300) ∧ x1 < N ∧ x4 < N ∧ x7 < N then g_let (N + 1) fun N4 => g_let (va_up ln N (1000 + (x3 + 1).toNatClampNeg)) fun ln2 => g_let (g_row A N (fun _ => -1)) fun A3 => mL_more_L274 xs L gF N4 ln2 (k + 1) (n + (x3 + 1).toNatClampNeg) A3 x1 x3 x4 x5 x6 x7 N 0
  else none
def mL_more_b245 (xs : Nat → Int32) (L : Nat) (N : Nat) (ln : Nat → Nat) (k n : Nat) (A : gM) (x1 : Nat) (x2 : Int32) (x3 : Int32) (x4 : Nat) (x5 : Int32) (x6 : Int32) (x7 : Nat) : Option (Nat × (Nat → Nat) × gM × Nat) :=
  if x5 = 7 then
  if k ≤ 20 ∧ n ≤ 300 then (mL_below A (x2 >>> (4 &&& 31)) 2).bind fun q2 =>
  if (x7 < N ∧ 183 ≤ x7 ∧ ln x7 < 1000) ∧ g_in 4 (ln x7) = true then g_let (g_up q2.1 x7 (4 : Int32).toNatClampNeg q2.2) fun A5 =>
  mL_more_b263 xs L N ln k n A5 x1 x3 x4 x5 x6 x7
  else none
  else none
  else
  mL_more_b263 xs L N ln k n A x1 x3 x4 x5 x6 x7
def mL_more_b239 (xs : Nat → Int32) (L : Nat) (N : Nat) (ln : Nat → Nat) (k n : Nat) (A : gM) (x1 : Nat) (x2 : Int32) (x3 : Int32) (x4 : Nat) (x5 : Int32) (x6 : Int32) (x7 : Nat) : Option (Nat × (Nat → Nat) × gM × Nat) :=
  if (x7 < N ∧ 183 ≤ x7 ∧ ln x7 < 1000) ∧ g_in 4 (ln x7) = true then g_let (g_up A x7 (4 : Int32).toNatClampNeg x6) fun A2 =>
  mL_more_b245 xs L N ln k n A2 x1 x2 x3 x4 x5 x6 x7
  else none
def mL_more_b196 (xs : Nat → Int32) (L : Nat) (K196 : Nat → (Nat → Nat) → Nat → Nat → gM → Nat → Int32 → Int32 → Nat → Int32 → Int32 → Nat → Int32 → Int32 → Option (Nat × (Nat → Nat) × gM × Nat)) (N : Nat) (ln : Nat → Nat) (k n : Nat) (A : gM) (x1 : Nat) (x2 : Int32) (x3 : Int32) (x4 : Nat) (x5 : Int32) (x6 : Int32) (x7 : Nat) (x8 : Int32) (x9 : Int32) : Option (Nat × (Nat → Nat) × gM × Nat) :=
  if x8 ≤ x9 then
  if x5 = 2 then
  mL_more_b239 xs L N ln k n A x1 x2 x3 x4 x5 x6 x7
  else
  if x5 = 3 then
  mL_more_b239 xs L N ln k n A x1 x2 x3 x4 x5 x6 x7
  else
  if x5 = 5 then
  mL_more_b239 xs L N ln k n A x1 x2 x3 x4 x5 x6 x7
  else
  mL_more_b245 xs L N ln k n A x1 x2 x3 x4 x5 x6 x7
  else
  if (x4 < N ∧ 183 ≤ x4 ∧ ln x4 < 1000) ∧ g_in x9 (ln x4) = true then
  if (x7 < N ∧ 183 ≤ x7 ∧ ln x7 < 1000) ∧ g_in (1 + x9) (ln x7) = true then g_let (g_up A x7 (1 + x9).toNatClampNeg (A x4 x9.toNatClampNeg)) fun A7 =>
  g_let (x9 + 1) fun v8 =>
  K196 N ln k n A7 x1 x2 x3 x4 x5 x6 x7 x8 v8
  else none
  else none
def mL_more_L196 (xs : Nat → Int32) (L : Nat) : Nat → Nat → (Nat → Nat) → Nat → Nat → gM → Nat → Int32 → Int32 → Nat → Int32 → Int32 → Nat → Int32 → Int32 → Option (Nat × (Nat → Nat) × gM × Nat)
  | 0 => fun _ _ _ _ _ _ _ _ _ _ _ _ _ _ => none
  | f + 1 => fun N ln k n A x1 x2 x3 x4 x5 x6 x7 x8 x9 => mL_more_b196 xs L (mL_more_L196 xs L f) N ln k n A x1 x2 x3 x4 x5 x6 x7 x8 x9
def mL_more_b191 (xs : Nat → Int32) (L : Nat) (N : Nat) (ln : Nat → Nat) (k n : Nat) (A : gM) (x1 : Nat) (x2 : Int32) (x3 : Int32) (x4 : Nat) (x5 : Int32) (x6 : Int32) (x7 : Nat) (s0 : Int32) : Option (Nat × (Nat → Nat) × gM × Nat) :=
  mL_more_L196 xs L gF N ln k n A x1 x2 x3 x4 x5 x6 x7 s0 0
def mL_more_b175 (xs : Nat → Int32) (L : Nat) (N : Nat) (ln : Nat → Nat) (k n : Nat) (A : gM) (x1 : Nat) (x2 : Int32) (x3 : Int32) (x4 : Nat) (x5 : Int32) (x6 : Int32) (x7 : Nat) : Option (Nat × (Nat → Nat) × gM × Nat) :=
  mL_more_b191 xs L N ln k n A x1 x2 x3 x4 x5 x6 x7 1
def mL_more_b115 (xs : Nat → Int32) (L : Nat) (N : Nat) (ln : Nat → Nat) (k n : Nat) (A : gM) (x1 : Nat) (x2 : Int32) (x3 : Int32) (x4 : Nat) (s0 : Int32) : Option (Nat × (Nat → Nat) × gM × Nat) :=
  if k ≤ 20 ∧ n ≤ 300 then (mL_below A (x2 >>> (4 &&& 31)) 3).bind fun q1 =>
  if ((5 : Int32).toNatClampNeg < 1000 ∧ ¬ (5 : Int32) < 0) ∧ (k + 1 ≤ 20 ∧ n + (5 : Int32).toNatClampNeg ≤ 300) ∧ x1 < N ∧ x4 < N then g_let (N + 1) fun N6 => g_let (va_up ln N (5 : Int32).toNatClampNeg) fun ln4 => g_let (g_row q1.1 N (fun _ => 0)) fun A5 => if (N < N6 ∧ 183 ≤ N ∧ ln4 N < 1000) ∧ g_in 0 (ln4 N) = true then g_let (g_up A5 N (0 : Int32).toNatClampNeg s0) fun A8 =>
  if (N < N6 ∧ 183 ≤ N ∧ ln4 N < 1000) ∧ g_in 1 (ln4 N) = true then g_let (g_up A8 N (1 : Int32).toNatClampNeg (-1)) fun A10 =>
  if (N < N6 ∧ 183 ≤ N ∧ ln4 N < 1000) ∧ g_in 2 (ln4 N) = true then g_let (g_up A10 N (2 : Int32).toNatClampNeg (-1)) fun A12 =>
  if (N < N6 ∧ 183 ≤ N ∧ ln4 N < 1000) ∧ g_in 3 (ln4 N) = true then g_let (g_up A12 N (3 : Int32).toNatClampNeg (-1)) fun A14 =>
  if (N < N6 ∧ 183 ≤ N ∧ ln4 N < 1000) ∧ g_in 4 (ln4 N) = true then g_let (g_up A14 N (4 : Int32).toNatClampNeg (-1)) fun A16 =>
  if 3 ≤ s0 then
  if s0 = 3 then
  mL_more_b175 xs L N6 ln4 (k + 1) (n + (5 : Int32).toNatClampNeg) A16 x1 x2 x3 x4 s0 q1.2 N
  else
  if s0 = 7 then
  mL_more_b175 xs L N6 ln4 (k + 1) (n + (5 : Int32).toNatClampNeg) A16 x1 x2 x3 x4 s0 q1.2 N
  else
  if s0 = 8 then
  mL_more_b191 xs L N6 ln4 (k + 1) (n + (5 : Int32).toNatClampNeg) A16 x1 x2 x3 x4 s0 q1.2 N 3
  else
  mL_more_b191 xs L N6 ln4 (k + 1) (n + (5 : Int32).toNatClampNeg) A16 x1 x2 x3 x4 s0 q1.2 N 2
  else
  mL_more_b191 xs L N6 ln4 (k + 1) (n + (5 : Int32).toNatClampNeg) A16 x1 x2 x3 x4 s0 q1.2 N 0
  else none
  else none
  else none
  else none
  else none
  else none
  else none
def mL_more_b74 (xs : Nat → Int32) (L : Nat) (N : Nat) (ln : Nat → Nat) (k n : Nat) (A : gM) (x1 : Nat) (x2 : Int32) (x3 : Int32) (x4 : Nat) : Option (Nat × (Nat → Nat) × gM × Nat) :=
  if x3 = 0 then
  if k ≤ 20 ∧ n ≤ 300 then (mL_below A x2 3).bind fun q9 =>
  mL_more_b115 xs L N ln k n q9.1 x1 x2 x3 x4 q9.2
  else none
  else
  if k ≤ 20 ∧ n ≤ 300 then (mL_below A (x2 >>> (5 &&& 31)) 3).bind fun q2 =>
  if q2.2 = 0 then
  if k ≤ 20 ∧ n ≤ 300 then (mL_below q2.1 x2 3).bind fun q7 =>
  mL_more_b115 xs L N ln k n q7.1 x1 x2 x3 x4 q7.2
  else none
  else
  if k ≤ 20 ∧ n ≤ 300 then (mL_below q2.1 (x2 >>> (9 &&& 31)) 6).bind fun q5 =>
  mL_more_b115 xs L N ln k n q5.1 x1 x2 x3 x4 (3 + q5.2)
  else none
  else none
def mL_more_b67 (xs : Nat → Int32) (L : Nat) (K11 : Nat → (Nat → Nat) → Nat → Nat → gM → Nat → Int32 → Int32 → Nat → Int32 → Option (Nat × (Nat → Nat) × gM × Nat)) (N : Nat) (ln : Nat → Nat) (k n : Nat) (A : gM) (x1 : Nat) (x2 : Int32) (x3 : Int32) (x4 : Nat) (x5 : Int32) (s0 : Nat) (s1 : Int32) (s2 : Int32) : Option (Nat × (Nat → Nat) × gM × Nat) :=
  if (s0 < N ∧ 183 ≤ s0 ∧ ln s0 < 1000) ∧ g_in s1 (ln s0) = true then g_let (g_up A s0 s1.toNatClampNeg s2) fun A2 =>
  g_let (x5 + 1) fun v3 =>
  K11 N ln k n A2 x1 x2 x3 x4 v3
  else none
def mL_more_b11 (xs : Nat → Int32) (L : Nat) (K11 : Nat → (Nat → Nat) → Nat → Nat → gM → Nat → Int32 → Int32 → Nat → Int32 → Option (Nat × (Nat → Nat) × gM × Nat)) (N : Nat) (ln : Nat → Nat) (k n : Nat) (A : gM) (x1 : Nat) (x2 : Int32) (x3 : Int32) (x4 : Nat) (x5 : Int32) : Option (Nat × (Nat → Nat) × gM × Nat) :=
  if 3 ≤ x5 then
  mL_more_b74 xs L N ln k n A x1 x2 x3 x4
  else
  if x3 ≤ 0 then
  mL_more_b74 xs L N ln k n A x1 x2 x3 x4
  else
  if k ≤ 20 ∧ n ≤ 300 then (mL_below A (x2 >>> (x5 &&& 31)) 3).bind fun q3 =>
  if q3.2 = 0 then
  if k ≤ 20 ∧ n ≤ 300 then (mL_below q3.1 (x2 >>> ((2 * x5) &&& 31)) x3).bind fun q10 =>
  mL_more_b67 xs L K11 N ln k n q10.1 x1 x2 x3 x4 x5 x4 x5 q10.2
  else none
  else
  if k ≤ 20 ∧ n ≤ 300 then g_let (if 4 < x3 then 4 else x3) fun v6 => if k ≤ 20 ∧ n ≤ 300 then (mL_below q3.1 (x2 >>> ((3 * x5) &&& 31)) v6).bind fun q8 =>
  mL_more_b67 xs L K11 N ln k n q8.1 x1 x2 x3 x4 x5 x4 x5 ((x3 - 1) - q8.2)
  else none
  else none
  else none
def mL_more_L11 (xs : Nat → Int32) (L : Nat) : Nat → Nat → (Nat → Nat) → Nat → Nat → gM → Nat → Int32 → Int32 → Nat → Int32 → Option (Nat × (Nat → Nat) × gM × Nat)
  | 0 => fun _ _ _ _ _ _ _ _ _ _ => none
  | f + 1 => fun N ln k n A x1 x2 x3 x4 x5 => mL_more_b11 xs L (mL_more_L11 xs L f) N ln k n A x1 x2 x3 x4 x5
def mL_more_b0 (xs : Nat → Int32) (L : Nat) (N : Nat) (ln : Nat → Nat) (k n : Nat) (A : gM) (x1 : Nat) (x2 : Int32) : Option (Nat × (Nat → Nat) × gM × Nat) :=
  if x1 < N ∧ 183 ≤ x1 ∧ 1000 ≤ ln x1 then
  g_let (Int32.ofNat (ln x1 - 1000)) fun v2 =>
  if ((3 : Int32).toNatClampNeg < 1000 ∧ ¬ (3 : Int32) < 0) ∧ (k + 1 ≤ 20 ∧ n + (3 : Int32).toNatClampNeg ≤ 300) ∧ x1 < N then g_let (N + 1) fun N6 => g_let (va_up ln N (3 : Int32).toNatClampNeg) fun ln4 => g_let (g_row A N (fun _ => 0)) fun A5 => mL_more_L11 xs L gF N6 ln4 (k + 1) (n + (3 : Int32).toNatClampNeg) A5 x1 x2 v2 N 0
  else none
  else none
def mL_more (xs : Nat → Int32) (L : Nat) (N : Nat) (ln : Nat → Nat) (A : gM) (x1 : Nat) (x2 : Int32) : Option (Nat × (Nat → Nat) × gM × Nat) := mL_more_b0 xs L N ln 0 0 A x1 x2
set_option maxHeartbeats 4000000 in
set_option maxRecDepth 20000 in
theorem wL_more_b318  {N1 : Nat} {ln1 : Nat → Nat} {A1 : gM} {r : Nat} (C : gC p (g_rmx 110 20 300) s m args meth c cL_more RL 11 D g (va_A (gw g ad0 ln0 A0 N0) s.heap.size) 110) (CX : gCP l s (va_A (gw g ad0 ln0 A0 N0) s.heap.size) b L xs) (hr : meth.sig.returnType = some (.array (.array .int)))  {N : Nat} {ad ln : Nat → Nat} (hN : 183 ≤ N) (hNN : N0 ≤ N) (hag : ∀ i, i < N0 → ad i = ad0 i) {k n : Nat} {A : gM} {x1 : Nat} (h : mL_more_b318 xs L N ln k n A x1 = some (N1, ln1, A1, r)) : gJ p l e (g_rmx 110 20 300) s m args below meth c (gEPr below D g N0 ad0 ln0 A0 N1 ln1 A1 r 20 300 args s) 11 D g (va_A (gw g ad0 ln0 A0 N0) s.heap.size) N ad ln A [(1, gr x1)] k n 318 [] := by
  unfold mL_more_b318 at h
  refine g_aload_n C 0 dL_more_318 rfl ?_
  obtain ⟨hg1, h⟩ := g_gd h
  obtain ⟨rfl, rfl, rfl, rfl⟩ := g_end h
  exact g_retPr C hag hr (Or.inr ⟨_, rfl⟩) hg1.1 hg1.2 dL_more_319

set_option maxHeartbeats 4000000 in
set_option maxRecDepth 20000 in
theorem wL_more_b473  {N1 : Nat} {ln1 : Nat → Nat} {A1 : gM} {r : Nat} (C : gC p (g_rmx 110 20 300) s m args meth c cL_more RL 11 D g (va_A (gw g ad0 ln0 A0 N0) s.heap.size) 110) (CX : gCP l s (va_A (gw g ad0 ln0 A0 N0) s.heap.size) b L xs) (hr : meth.sig.returnType = some (.array (.array .int)))  {N : Nat} {ad ln : Nat → Nat} (hN : 183 ≤ N) (hNN : N0 ≤ N) (hag : ∀ i, i < N0 → ad i = ad0 i) {k n : Nat} {A : gM} {x3 : Int32} {x9 : Nat} {s0 : Int32} (h : mL_more_b473 xs L N ln k n A x3 x9 s0 = some (N1, ln1, A1, r)) : gJ p l e (g_rmx 110 20 300) s m args below meth c (gEPr below D g N0 ad0 ln0 A0 N1 ln1 A1 r 20 300 args s) 11 D g (va_A (gw g ad0 ln0 A0 N0) s.heap.size) N ad ln A [(3, gi x3), (9, gr x9)] k n 473 [gi s0] := by
  unfold mL_more_b473 at h
  refine g_istore C dL_more_473 (by decide) rfl ?_
  refine g_iload C 0 dL_more_475 rfl ?_
  refine g_iload_n C 1 dL_more_477 rfl ?_
  refine g_icmp_ne C dL_more_478 (tgt := 486) (by decide) (fun c1 => ?_) (fun c1 => ?_)
  · have h := g_ff c1 h
    cases h
  · have h := g_tt c1 h
    refine g_aload C 2 dL_more_481 rfl ?_
    refine g_goto C dL_more_483 (tgt := 487) (by decide) ?_
    obtain ⟨hg2, h⟩ := g_gd h
    obtain ⟨rfl, rfl, rfl, rfl⟩ := g_end h
    exact g_retPr C hag hr (Or.inr ⟨_, rfl⟩) hg2.1 hg2.2 dL_more_487

set_option maxHeartbeats 4000000 in
set_option maxRecDepth 20000 in
theorem wL_more_b274  {N1 : Nat} {ln1 : Nat → Nat} {A1 : gM} {r : Nat} (C : gC p (g_rmx 110 20 300) s m args meth c cL_more RL 11 D g (va_A (gw g ad0 ln0 A0 N0) s.heap.size) 110) (CX : gCP l s (va_A (gw g ad0 ln0 A0 N0) s.heap.size) b L xs) (hr : meth.sig.returnType = some (.array (.array .int))) {K274 : Nat → (Nat → Nat) → Nat → Nat → gM → Nat → Int32 → Nat → Int32 → Int32 → Nat → Nat → Int32 → Option (Nat × (Nat → Nat) × gM × Nat)} (hK274 : ∀ {N : Nat} {ad ln : Nat → Nat} (hN : 183 ≤ N) (hNN : N0 ≤ N) (hag : ∀ i, i < N0 → ad i = ad0 i) {k n : Nat} {A : gM} {x1 : Nat} {x3 : Int32} {x4 : Nat} {x5 : Int32} {x6 : Int32} {x7 : Nat} {x9 : Nat} {x10 : Int32}, K274 N ln k n A x1 x3 x4 x5 x6 x7 x9 x10 = some (N1, ln1, A1, r) → gJ p l e (g_rmx 110 20 300) s m args below meth c (gEPr below D g N0 ad0 ln0 A0 N1 ln1 A1 r 20 300 args s) 11 D g (va_A (gw g ad0 ln0 A0 N0) s.heap.size) N ad ln A [(0, gr 0), (1, gr x1), (3, gi x3), (4, gr x4), (5, gi x5), (6, gi x6), (7, gr x7), (9, gr x9), (10, gi x10)] k n 274 []) {N : Nat} {ad ln : Nat → Nat} (hN : 183 ≤ N) (hNN : N0 ≤ N) (hag : ∀ i, i < N0 → ad i = ad0 i) {k n : Nat} {A : gM} {x1 : Nat} {x3 : Int32} {x4 : Nat} {x5 : Int32} {x6 : Int32} {x7 : Nat} {x9 : Nat} {x10 : Int32} (h : mL_more_b274 xs L K274 N ln k n A x1 x3 x4 x5 x6 x7 x9 x10 = some (N1, ln1, A1, r)) : gJ p l e (g_rmx 110 20 300) s m args below meth c (gEPr below D g N0 ad0 ln0 A0 N1 ln1 A1 r 20 300 args s) 11 D g (va_A (gw g ad0 ln0 A0 N0) s.heap.size) N ad ln A [(0, gr 0), (1, gr x1), (3, gi x3), (4, gr x4), (5, gi x5), (6, gi x6), (7, gr x7), (9, gr x9), (10, gi x10)] k n 274 [] := by
  unfold mL_more_b274 at h
  refine g_iload C 8 dL_more_274 rfl ?_
  refine g_iload_n C 2 dL_more_276 rfl ?_
  refine g_icmp_ge C dL_more_277 (tgt := 295) (by decide) (fun c1 => ?_) (fun c1 => ?_)
  · have h := g_tt c1 h
    refine g_aload C 7 dL_more_295 rfl ?_
    refine g_iload_n C 2 dL_more_297 rfl ?_
    refine g_aload C 6 dL_more_298 rfl ?_
    obtain ⟨hg2, h⟩ := g_gd h
    obtain ⟨A3, eA3, h⟩ := g_lt h
    refine g_rast C CX x9 x7 hg2 eA3 dL_more_300 ?_
    refine g_iload_n C 2 dL_more_301 rfl ?_
    refine g_bipush (v := 40) C dL_more_302 (by decide) ?_
    refine g_icmp_eq C dL_more_304 (tgt := 318) (by decide) (fun c4 => ?_) (fun c4 => ?_)
    · have h := g_tt c4 h
      refine g_sub [1] rfl ?_
      exact wL_more_b318 C CX hr hN hNN hag h
    · have h := g_ff c4 h
      refine g_aload C 7 dL_more_307 rfl ?_
      refine g_iload_n C 2 dL_more_309 rfl ?_
      obtain ⟨⟨hg6a, hg6_0, hg6_1, hg6_2, hg6_3⟩, h⟩ := g_gd h
      obtain ⟨N9, ln10, A8, r7, eq5, h⟩ := g_cpx h
      obtain ⟨hg6N, h⟩ := g_gd h
      refine g_callPi C CX [gr x9, gi x3] (kL_size CX.1 60 hN eq5) qs_L_26 (by omega) rfl rfl (Nat.le_of_ble_eq_true rfl) hg6a ⟨(by omega), hg6_0, hg6_1, hg6_2, hg6_3, trivial⟩ trivial dL_more_310 (fun ad1 hgq => ?_)
      generalize ad1 = ad at hgq ⊢
      have hag : ∀ i, i < N0 → ad i = ad0 i := fun i hi => (hgq i (by omega)).trans (hag i hi)
      have hNN : N0 ≤ N9 := by omega
      have hN : 183 ≤ N9 := by omega
      refine g_bipush (v := 24) C dL_more_313 (by decide) ?_
      refine g_icmp_le C dL_more_315 (tgt := 320) (by decide) (fun c11 => ?_) (fun c11 => ?_)
      · have h := g_tt c11 h
        refine g_iload C 4 dL_more_320 rfl ?_
        refine g_iconst (v := 2) C dL_more_322 (by decide) ?_
        refine g_icmp_ge C dL_more_323 (tgt := 335) (by decide) (fun c12 => ?_) (fun c12 => ?_)
        · have h := g_tt c12 h
          refine g_iload C 4 dL_more_335 rfl ?_
          refine g_iconst (v := 2) C dL_more_337 (by decide) ?_
          refine g_icmp_ne C dL_more_338 (tgt := 350) (by decide) (fun c13 => ?_) (fun c13 => ?_)
          · have h := g_ff c13 h
            refine g_iload C 4 dL_more_350 rfl ?_
            refine g_iconst (v := 3) C dL_more_352 (by decide) ?_
            refine g_icmp_ne C dL_more_353 (tgt := 369) (by decide) (fun c14 => ?_) (fun c14 => ?_)
            · have h := g_ff c14 h
              refine g_iload C 4 dL_more_369 rfl ?_
              refine g_iconst (v := 4) C dL_more_371 (by decide) ?_
              refine g_icmp_ne C dL_more_372 (tgt := 390) (by decide) (fun c15 => ?_) (fun c15 => ?_)
              · have h := g_ff c15 h
                refine g_iload C 4 dL_more_390 rfl ?_
                refine g_iconst (v := 5) C dL_more_392 (by decide) ?_
                refine g_icmp_ne C dL_more_393 (tgt := 413) (by decide) (fun c16 => ?_) (fun c16 => ?_)
                · have h := g_ff c16 h
                  refine g_iload C 4 dL_more_413 rfl ?_
                  refine g_bipush (v := 6) C dL_more_415 (by decide) ?_
                  refine g_icmp_ne C dL_more_417 (tgt := 435) (by decide) (fun c17 => ?_) (fun c17 => ?_)
                  · have h := g_ff c17 h
                    refine g_iload C 4 dL_more_435 rfl ?_
                    refine g_bipush (v := 7) C dL_more_437 (by decide) ?_
                    refine g_icmp_ne C dL_more_439 (tgt := 457) (by decide) (fun c18 => ?_) (fun c18 => ?_)
                    · have h := g_ff c18 h
                      refine g_aload_n C 0 dL_more_457 rfl ?_
                      refine g_aload C 3 dL_more_458 rfl ?_
                      refine g_iconst (v := 0) C dL_more_460 (by decide) ?_
                      obtain ⟨hg19, h⟩ := g_gd h
                      refine g_jald C x4 hg19 dL_more_461 ?_
                      refine g_aload C 3 dL_more_462 rfl ?_
                      refine g_iconst (v := 1) C dL_more_464 (by decide) ?_
                      obtain ⟨hg20, h⟩ := g_gd h
                      refine g_jald C x4 hg20 dL_more_465 ?_
                      refine g_aload C 3 dL_more_466 rfl ?_
                      refine g_iconst (v := 2) C dL_more_468 (by decide) ?_
                      obtain ⟨hg21, h⟩ := g_gd h
                      refine g_jald C x4 hg21 dL_more_469 ?_
                      obtain ⟨hg23, h⟩ := g_gd h
                      obtain ⟨A24, r25, eq22, h⟩ := g_cxx h
                      refine g_callX C CX 0 [gi (A8 x4 (0 : Int32).toNatClampNeg), gi (A8 x4 (1 : Int32).toNatClampNeg), gi (A8 x4 (2 : Int32).toNatClampNeg)] (kX5_either hN CX.1 eq22) qs_L_86 (by omega) (by omega) rfl rfl rfl rfl (Nat.le_of_ble_eq_true rfl) hg23 dL_more_470 ?_
                      refine g_sub [2, 7] rfl ?_
                      exact wL_more_b473 C CX hr hN hNN hag h
                    · have h := g_tt c18 h
                      refine g_aload_n C 0 dL_more_442 rfl ?_
                      refine g_aload C 3 dL_more_443 rfl ?_
                      refine g_iconst (v := 0) C dL_more_445 (by decide) ?_
                      obtain ⟨hg26, h⟩ := g_gd h
                      refine g_jald C x4 hg26 dL_more_446 ?_
                      refine g_aload C 6 dL_more_447 rfl ?_
                      refine g_iconst (v := 4) C dL_more_449 (by decide) ?_
                      obtain ⟨hg27, h⟩ := g_gd h
                      refine g_jald C x7 hg27 dL_more_450 ?_
                      obtain ⟨hg29, h⟩ := g_gd h
                      obtain ⟨A30, r31, eq28, h⟩ := g_cxx h
                      refine g_callX C CX 0 [gi (A8 x4 (0 : Int32).toNatClampNeg), gi (A8 x7 (4 : Int32).toNatClampNeg)] (kX5_end hN CX.1 eq28) qs_L_83 (by omega) (by omega) rfl rfl rfl rfl (Nat.le_of_ble_eq_true rfl) hg29 dL_more_451 ?_
                      refine g_goto C dL_more_454 (tgt := 473) (by decide) ?_
                      refine g_sub [2, 7] rfl ?_
                      exact wL_more_b473 C CX hr hN hNN hag h
                  · have h := g_tt c17 h
                    refine g_aload_n C 0 dL_more_420 rfl ?_
                    refine g_aload C 3 dL_more_421 rfl ?_
                    refine g_iconst (v := 0) C dL_more_423 (by decide) ?_
                    obtain ⟨hg32, h⟩ := g_gd h
                    refine g_jald C x4 hg32 dL_more_424 ?_
                    refine g_aload C 3 dL_more_425 rfl ?_
                    refine g_iconst (v := 1) C dL_more_427 (by decide) ?_
                    obtain ⟨hg33, h⟩ := g_gd h
                    refine g_jald C x4 hg33 dL_more_428 ?_
                    obtain ⟨hg35, h⟩ := g_gd h
                    obtain ⟨A36, r37, eq34, h⟩ := g_cxx h
                    refine g_callX C CX 0 [gi (A8 x4 (0 : Int32).toNatClampNeg), gi (A8 x4 (1 : Int32).toNatClampNeg)] (kX5_axle hN CX.1 eq34) qs_L_80 (by omega) (by omega) rfl rfl rfl rfl (Nat.le_of_ble_eq_true rfl) hg35 dL_more_429 ?_
                    refine g_goto C dL_more_432 (tgt := 473) (by decide) ?_
                    refine g_sub [2, 7] rfl ?_
                    exact wL_more_b473 C CX hr hN hNN hag h
                · have h := g_tt c16 h
                  refine g_aload_n C 0 dL_more_396 rfl ?_
                  refine g_iload C 5 dL_more_397 rfl ?_
                  refine g_aload C 3 dL_more_399 rfl ?_
                  refine g_iconst (v := 0) C dL_more_401 (by decide) ?_
                  obtain ⟨hg38, h⟩ := g_gd h
                  refine g_jald C x4 hg38 dL_more_402 ?_
                  refine g_aload C 3 dL_more_403 rfl ?_
                  refine g_iconst (v := 1) C dL_more_405 (by decide) ?_
                  obtain ⟨hg39, h⟩ := g_gd h
                  refine g_jald C x4 hg39 dL_more_406 ?_
                  obtain ⟨hg41, h⟩ := g_gd h
                  obtain ⟨A42, r43, eq40, h⟩ := g_cxx h
                  refine g_callX C CX 0 [gi x6, gi (A8 x4 (0 : Int32).toNatClampNeg), gi (A8 x4 (1 : Int32).toNatClampNeg)] (kX5_tell hN CX.1 eq40) qs_L_76 (by omega) (by omega) rfl rfl rfl rfl (Nat.le_of_ble_eq_true rfl) hg41 dL_more_407 ?_
                  refine g_goto C dL_more_410 (tgt := 473) (by decide) ?_
                  refine g_sub [2, 7] rfl ?_
                  exact wL_more_b473 C CX hr hN hNN hag h
              · have h := g_tt c15 h
                refine g_aload_n C 0 dL_more_375 rfl ?_
                refine g_aload C 3 dL_more_376 rfl ?_
                refine g_iconst (v := 0) C dL_more_378 (by decide) ?_
                obtain ⟨hg44, h⟩ := g_gd h
                refine g_jald C x4 hg44 dL_more_379 ?_
                refine g_aload C 3 dL_more_380 rfl ?_
                refine g_iconst (v := 1) C dL_more_382 (by decide) ?_
                obtain ⟨hg45, h⟩ := g_gd h
                refine g_jald C x4 hg45 dL_more_383 ?_
                obtain ⟨hg47, h⟩ := g_gd h
                obtain ⟨A48, r49, eq46, h⟩ := g_cxx h
                refine g_callX C CX 0 [gi (A8 x4 (0 : Int32).toNatClampNeg), gi (A8 x4 (1 : Int32).toNatClampNeg)] (kX5_turn hN CX.1 eq46) qs_L_73 (by omega) (by omega) rfl rfl rfl rfl (Nat.le_of_ble_eq_true rfl) hg47 dL_more_384 ?_
                refine g_goto C dL_more_387 (tgt := 473) (by decide) ?_
                refine g_sub [2, 7] rfl ?_
                exact wL_more_b473 C CX hr hN hNN hag h
            · have h := g_tt c14 h
              refine g_aload_n C 0 dL_more_356 rfl ?_
              refine g_iload C 5 dL_more_357 rfl ?_
              refine g_aload C 3 dL_more_359 rfl ?_
              refine g_iconst (v := 0) C dL_more_361 (by decide) ?_
              obtain ⟨hg50, h⟩ := g_gd h
              refine g_jald C x4 hg50 dL_more_362 ?_
              obtain ⟨hg52, h⟩ := g_gd h
              obtain ⟨A53, r54, eq51, h⟩ := g_cxx h
              refine g_callX C CX 0 [gi x6, gi (A8 x4 (0 : Int32).toNatClampNeg)] (kX5_wheel hN CX.1 eq51) qs_L_70 (by omega) (by omega) rfl rfl rfl rfl (Nat.le_of_ble_eq_true rfl) hg52 dL_more_363 ?_
              refine g_goto C dL_more_366 (tgt := 473) (by decide) ?_
              refine g_sub [2, 7] rfl ?_
              exact wL_more_b473 C CX hr hN hNN hag h
          · have h := g_tt c13 h
            refine g_aload_n C 0 dL_more_341 rfl ?_
            refine g_iload C 5 dL_more_342 rfl ?_
            obtain ⟨hg56, h⟩ := g_gd h
            obtain ⟨A57, r58, eq55, h⟩ := g_cxx h
            refine g_callX C CX 0 [gi x6] (kX5_name hN CX.1 eq55) qs_L_67 (by omega) (by omega) rfl rfl rfl rfl (Nat.le_of_ble_eq_true rfl) hg56 dL_more_344 ?_
            refine g_goto C dL_more_347 (tgt := 473) (by decide) ?_
            refine g_sub [2, 7] rfl ?_
            exact wL_more_b473 C CX hr hN hNN hag h
        · have h := g_ff c12 h
          refine g_aload_n C 0 dL_more_326 rfl ?_
          refine g_iload C 4 dL_more_327 rfl ?_
          obtain ⟨hg60, h⟩ := g_gd h
          obtain ⟨A61, r62, eq59, h⟩ := g_cxx h
          refine g_callX C CX 0 [gi x5] (kX5_plain hN CX.1 eq59) qs_L_63 (by omega) (by omega) rfl rfl rfl rfl (Nat.le_of_ble_eq_true rfl) hg60 dL_more_329 ?_
          refine g_goto C dL_more_332 (tgt := 473) (by decide) ?_
          refine g_sub [2, 7] rfl ?_
          exact wL_more_b473 C CX hr hN hNN hag h
      · have h := g_ff c11 h
        refine g_sub [1] rfl ?_
        exact wL_more_b318 C CX hr hN hNN hag h
  · have h := g_ff c1 h
    refine g_aload C 7 dL_more_280 rfl ?_
    refine g_iload C 8 dL_more_282 rfl ?_
    refine g_aload_n C 1 dL_more_284 rfl ?_
    refine g_iload C 8 dL_more_285 rfl ?_
    obtain ⟨hg63, h⟩ := g_gd h
    obtain ⟨w64, ew64, h⟩ := g_lt h
    refine g_rald C x1 hg63 dL_more_287 ?_
    rw [ew64]
    obtain ⟨hg65, h⟩ := g_gd h
    obtain ⟨A66, eA66, h⟩ := g_lt h
    refine g_rast C CX x9 w64 hg65 eA66 dL_more_288 ?_
    obtain ⟨v67, ev67, h⟩ := g_lt h
    refine g_iinc C 8 dL_more_289 rfl ev67 (by decide) rfl ?_
    refine g_goto C dL_more_292 (tgt := 274) (by decide) ?_
    refine g_sub [1, 2, 3, 4, 5, 6, 7, 8, 0] rfl ?_
    exact hK274 hN hNN hag h

set_option maxHeartbeats 4000000 in
set_option maxRecDepth 20000 in
theorem wL_more_L274  {N1 : Nat} {ln1 : Nat → Nat} {A1 : gM} {r : Nat} (C : gC p (g_rmx 110 20 300) s m args meth c cL_more RL 11 D g (va_A (gw g ad0 ln0 A0 N0) s.heap.size) 110) (CX : gCP l s (va_A (gw g ad0 ln0 A0 N0) s.heap.size) b L xs) (hr : meth.sig.returnType = some (.array (.array .int)))  : ∀ (f : Nat) {N : Nat} {ad ln : Nat → Nat} (hN : 183 ≤ N) (hNN : N0 ≤ N) (hag : ∀ i, i < N0 → ad i = ad0 i) {k n : Nat} {A : gM} {x1 : Nat} {x3 : Int32} {x4 : Nat} {x5 : Int32} {x6 : Int32} {x7 : Nat} {x9 : Nat} {x10 : Int32}, mL_more_L274 xs L f N ln k n A x1 x3 x4 x5 x6 x7 x9 x10 = some (N1, ln1, A1, r) → gJ p l e (g_rmx 110 20 300) s m args below meth c (gEPr below D g N0 ad0 ln0 A0 N1 ln1 A1 r 20 300 args s) 11 D g (va_A (gw g ad0 ln0 A0 N0) s.heap.size) N ad ln A [(0, gr 0), (1, gr x1), (3, gi x3), (4, gr x4), (5, gi x5), (6, gi x6), (7, gr x7), (9, gr x9), (10, gi x10)] k n 274 []
  | 0, N, ad, ln, hN, hNN, hag, k, n, A, x1, x3, x4, x5, x6, x7, x9, x10, h => by cases h
  | f + 1, N, ad, ln, hN, hNN, hag, k, n, A, x1, x3, x4, x5, x6, x7, x9, x10, h => wL_more_b274 C CX hr (fun hN hNN hag _ _ _ _ _ _ _ _ _ _ _ h => wL_more_L274 C CX hr f hN hNN hag h) hN hNN hag h
set_option maxHeartbeats 4000000 in
set_option maxRecDepth 20000 in
theorem wL_more_b263  {N1 : Nat} {ln1 : Nat → Nat} {A1 : gM} {r : Nat} (C : gC p (g_rmx 110 20 300) s m args meth c cL_more RL 11 D g (va_A (gw g ad0 ln0 A0 N0) s.heap.size) 110) (CX : gCP l s (va_A (gw g ad0 ln0 A0 N0) s.heap.size) b L xs) (hr : meth.sig.returnType = some (.array (.array .int)))  {N : Nat} {ad ln : Nat → Nat} (hN : 183 ≤ N) (hNN : N0 ≤ N) (hag : ∀ i, i < N0 → ad i = ad0 i) {k n : Nat} {A : gM} {x1 : Nat} {x3 : Int32} {x4 : Nat} {x5 : Int32} {x6 : Int32} {x7 : Nat} (h : mL_more_b263 xs L N ln k n A x1 x3 x4 x5 x6 x7 = some (N1, ln1, A1, r)) : gJ p l e (g_rmx 110 20 300) s m args below meth c (gEPr below D g N0 ad0 ln0 A0 N1 ln1 A1 r 20 300 args s) 11 D g (va_A (gw g ad0 ln0 A0 N0) s.heap.size) N ad ln A [(0, gr 0), (1, gr x1), (3, gi x3), (4, gr x4), (5, gi x5), (6, gi x6), (7, gr x7)] k n 263 [] := by
  unfold mL_more_b263 at h
  refine g_iload_n C 2 dL_more_263 rfl ?_
  refine g_iconst (v := 1) C dL_more_264 (by decide) ?_
  refine g_iadd C dL_more_265 ?_
  obtain ⟨⟨hg1a, hg1b, hg1_0, hg1_1, hg1_2⟩, h⟩ := g_gd h
  obtain ⟨N4, eN4, h⟩ := g_lt h
  obtain ⟨ln2, eln2, h⟩ := g_lt h
  obtain ⟨A3, eA3, h⟩ := g_lt h
  refine g_newR C CX hN qcl_61 ⟨hg1a.2, rfl, hg1a.1⟩ hg1b ⟨(by omega), hg1_0, hg1_1, hg1_2, trivial⟩ trivial dL_more_266 (fun q => ?_)
  rw [eN4, eln2, eA3]
  have hgq : ∀ i, i < N → va_up ad N q i = ad i := g_up_o
  generalize va_up ad N q = ad at hgq ⊢
  have hag : ∀ i, i < N0 → ad i = ad0 i := fun i hi => (hgq i (by omega)).trans (hag i hi)
  have hNN : N0 ≤ N4 := by omega
  have hN : 183 ≤ N4 := by omega
  refine g_astore C dL_more_269 (by decide) rfl ?_
  refine g_iconst (v := 0) C dL_more_271 (by decide) ?_
  refine g_istore C dL_more_272 (by decide) rfl ?_
  refine g_sub [2, 3, 4, 5, 6, 7, 8, 1, 0] rfl ?_
  exact wL_more_L274 C CX hr gF hN hNN hag h

set_option maxHeartbeats 4000000 in
set_option maxRecDepth 20000 in
theorem wL_more_b245  {N1 : Nat} {ln1 : Nat → Nat} {A1 : gM} {r : Nat} (C : gC p (g_rmx 110 20 300) s m args meth c cL_more RL 11 D g (va_A (gw g ad0 ln0 A0 N0) s.heap.size) 110) (CX : gCP l s (va_A (gw g ad0 ln0 A0 N0) s.heap.size) b L xs) (hr : meth.sig.returnType = some (.array (.array .int)))  {N : Nat} {ad ln : Nat → Nat} (hN : 183 ≤ N) (hNN : N0 ≤ N) (hag : ∀ i, i < N0 → ad i = ad0 i) {k n : Nat} {A : gM} {x1 : Nat} {x2 : Int32} {x3 : Int32} {x4 : Nat} {x5 : Int32} {x6 : Int32} {x7 : Nat} (h : mL_more_b245 xs L N ln k n A x1 x2 x3 x4 x5 x6 x7 = some (N1, ln1, A1, r)) : gJ p l e (g_rmx 110 20 300) s m args below meth c (gEPr below D g N0 ad0 ln0 A0 N1 ln1 A1 r 20 300 args s) 11 D g (va_A (gw g ad0 ln0 A0 N0) s.heap.size) N ad ln A [(0, gr 0), (1, gr x1), (2, gi x2), (3, gi x3), (4, gr x4), (5, gi x5), (6, gi x6), (7, gr x7)] k n 245 [] := by
  unfold mL_more_b245 at h
  refine g_iload C 5 dL_more_245 rfl ?_
  refine g_bipush (v := 7) C dL_more_247 (by decide) ?_
  refine g_icmp_ne C dL_more_249 (tgt := 263) (by decide) (fun c1 => ?_) (fun c1 => ?_)
  · have h := g_ff c1 h
    refine g_sub [0, 1, 3, 4, 5, 6, 7] rfl ?_
    exact wL_more_b263 C CX hr hN hNN hag h
  · have h := g_tt c1 h
    refine g_aload C 7 dL_more_252 rfl ?_
    refine g_iconst (v := 4) C dL_more_254 (by decide) ?_
    refine g_iload_n C 2 dL_more_255 rfl ?_
    refine g_iconst (v := 4) C dL_more_256 (by decide) ?_
    refine g_ishr C dL_more_257 ?_
    refine g_iconst (v := 2) C dL_more_258 (by decide) ?_
    obtain ⟨hg3, h⟩ := g_gd h
    obtain ⟨q2, eq2, h⟩ := g_bd h
    refine g_calliS C [gi (x2 >>> (4 &&& 31)), gi 2] (kL_below hN eq2) qs_L_55 (by omega) rfl rfl (Nat.le_of_ble_eq_true rfl) hg3 dL_more_259 ?_
    obtain ⟨hg4, h⟩ := g_gd h
    obtain ⟨A5, eA5, h⟩ := g_lt h
    refine g_jast C x7 hg4 eA5 dL_more_262 ?_
    refine g_sub [0, 1, 3, 4, 5, 6, 7] rfl ?_
    exact wL_more_b263 C CX hr hN hNN hag h

set_option maxHeartbeats 4000000 in
set_option maxRecDepth 20000 in
theorem wL_more_b239  {N1 : Nat} {ln1 : Nat → Nat} {A1 : gM} {r : Nat} (C : gC p (g_rmx 110 20 300) s m args meth c cL_more RL 11 D g (va_A (gw g ad0 ln0 A0 N0) s.heap.size) 110) (CX : gCP l s (va_A (gw g ad0 ln0 A0 N0) s.heap.size) b L xs) (hr : meth.sig.returnType = some (.array (.array .int)))  {N : Nat} {ad ln : Nat → Nat} (hN : 183 ≤ N) (hNN : N0 ≤ N) (hag : ∀ i, i < N0 → ad i = ad0 i) {k n : Nat} {A : gM} {x1 : Nat} {x2 : Int32} {x3 : Int32} {x4 : Nat} {x5 : Int32} {x6 : Int32} {x7 : Nat} (h : mL_more_b239 xs L N ln k n A x1 x2 x3 x4 x5 x6 x7 = some (N1, ln1, A1, r)) : gJ p l e (g_rmx 110 20 300) s m args below meth c (gEPr below D g N0 ad0 ln0 A0 N1 ln1 A1 r 20 300 args s) 11 D g (va_A (gw g ad0 ln0 A0 N0) s.heap.size) N ad ln A [(0, gr 0), (1, gr x1), (2, gi x2), (3, gi x3), (4, gr x4), (5, gi x5), (6, gi x6), (7, gr x7)] k n 239 [] := by
  unfold mL_more_b239 at h
  refine g_aload C 7 dL_more_239 rfl ?_
  refine g_iconst (v := 4) C dL_more_241 (by decide) ?_
  refine g_iload C 6 dL_more_242 rfl ?_
  obtain ⟨hg1, h⟩ := g_gd h
  obtain ⟨A2, eA2, h⟩ := g_lt h
  refine g_jast C x7 hg1 eA2 dL_more_244 ?_
  refine g_sub [0, 1, 2, 3, 4, 5, 6, 7] rfl ?_
  exact wL_more_b245 C CX hr hN hNN hag h

set_option maxHeartbeats 4000000 in
set_option maxRecDepth 20000 in
theorem wL_more_b196  {N1 : Nat} {ln1 : Nat → Nat} {A1 : gM} {r : Nat} (C : gC p (g_rmx 110 20 300) s m args meth c cL_more RL 11 D g (va_A (gw g ad0 ln0 A0 N0) s.heap.size) 110) (CX : gCP l s (va_A (gw g ad0 ln0 A0 N0) s.heap.size) b L xs) (hr : meth.sig.returnType = some (.array (.array .int))) {K196 : Nat → (Nat → Nat) → Nat → Nat → gM → Nat → Int32 → Int32 → Nat → Int32 → Int32 → Nat → Int32 → Int32 → Option (Nat × (Nat → Nat) × gM × Nat)} (hK196 : ∀ {N : Nat} {ad ln : Nat → Nat} (hN : 183 ≤ N) (hNN : N0 ≤ N) (hag : ∀ i, i < N0 → ad i = ad0 i) {k n : Nat} {A : gM} {x1 : Nat} {x2 : Int32} {x3 : Int32} {x4 : Nat} {x5 : Int32} {x6 : Int32} {x7 : Nat} {x8 : Int32} {x9 : Int32}, K196 N ln k n A x1 x2 x3 x4 x5 x6 x7 x8 x9 = some (N1, ln1, A1, r) → gJ p l e (g_rmx 110 20 300) s m args below meth c (gEPr below D g N0 ad0 ln0 A0 N1 ln1 A1 r 20 300 args s) 11 D g (va_A (gw g ad0 ln0 A0 N0) s.heap.size) N ad ln A [(0, gr 0), (1, gr x1), (2, gi x2), (3, gi x3), (4, gr x4), (5, gi x5), (6, gi x6), (7, gr x7), (8, gi x8), (9, gi x9)] k n 196 []) {N : Nat} {ad ln : Nat → Nat} (hN : 183 ≤ N) (hNN : N0 ≤ N) (hag : ∀ i, i < N0 → ad i = ad0 i) {k n : Nat} {A : gM} {x1 : Nat} {x2 : Int32} {x3 : Int32} {x4 : Nat} {x5 : Int32} {x6 : Int32} {x7 : Nat} {x8 : Int32} {x9 : Int32} (h : mL_more_b196 xs L K196 N ln k n A x1 x2 x3 x4 x5 x6 x7 x8 x9 = some (N1, ln1, A1, r)) : gJ p l e (g_rmx 110 20 300) s m args below meth c (gEPr below D g N0 ad0 ln0 A0 N1 ln1 A1 r 20 300 args s) 11 D g (va_A (gw g ad0 ln0 A0 N0) s.heap.size) N ad ln A [(0, gr 0), (1, gr x1), (2, gi x2), (3, gi x3), (4, gr x4), (5, gi x5), (6, gi x6), (7, gr x7), (8, gi x8), (9, gi x9)] k n 196 [] := by
  unfold mL_more_b196 at h
  refine g_iload C 9 dL_more_196 rfl ?_
  refine g_iload C 8 dL_more_198 rfl ?_
  refine g_icmp_ge C dL_more_200 (tgt := 221) (by decide) (fun c1 => ?_) (fun c1 => ?_)
  · have h := g_tt c1 h
    refine g_iload C 5 dL_more_221 rfl ?_
    refine g_iconst (v := 2) C dL_more_223 (by decide) ?_
    refine g_icmp_eq C dL_more_224 (tgt := 239) (by decide) (fun c2 => ?_) (fun c2 => ?_)
    · have h := g_tt c2 h
      refine g_sub [0, 1, 2, 3, 4, 5, 6, 7] rfl ?_
      exact wL_more_b239 C CX hr hN hNN hag h
    · have h := g_ff c2 h
      refine g_iload C 5 dL_more_227 rfl ?_
      refine g_iconst (v := 3) C dL_more_229 (by decide) ?_
      refine g_icmp_eq C dL_more_230 (tgt := 239) (by decide) (fun c3 => ?_) (fun c3 => ?_)
      · have h := g_tt c3 h
        refine g_sub [0, 1, 2, 3, 4, 5, 6, 7] rfl ?_
        exact wL_more_b239 C CX hr hN hNN hag h
      · have h := g_ff c3 h
        refine g_iload C 5 dL_more_233 rfl ?_
        refine g_iconst (v := 5) C dL_more_235 (by decide) ?_
        refine g_icmp_ne C dL_more_236 (tgt := 245) (by decide) (fun c4 => ?_) (fun c4 => ?_)
        · have h := g_ff c4 h
          refine g_sub [0, 1, 2, 3, 4, 5, 6, 7] rfl ?_
          exact wL_more_b245 C CX hr hN hNN hag h
        · have h := g_tt c4 h
          refine g_sub [0, 1, 2, 3, 4, 5, 6, 7] rfl ?_
          exact wL_more_b239 C CX hr hN hNN hag h
  · have h := g_ff c1 h
    refine g_aload C 7 dL_more_203 rfl ?_
    refine g_iconst (v := 1) C dL_more_205 (by decide) ?_
    refine g_iload C 9 dL_more_206 rfl ?_
    refine g_iadd C dL_more_208 ?_
    refine g_aload C 4 dL_more_209 rfl ?_
    refine g_iload C 9 dL_more_211 rfl ?_
    obtain ⟨hg5, h⟩ := g_gd h
    refine g_jald C x4 hg5 dL_more_213 ?_
    obtain ⟨hg6, h⟩ := g_gd h
    obtain ⟨A7, eA7, h⟩ := g_lt h
    refine g_jast C x7 hg6 eA7 dL_more_214 ?_
    obtain ⟨v8, ev8, h⟩ := g_lt h
    refine g_iinc C 9 dL_more_215 rfl ev8 (by decide) rfl ?_
    refine g_goto C dL_more_218 (tgt := 196) (by decide) ?_
    refine g_sub [1, 2, 3, 4, 5, 6, 7, 8, 9, 0] rfl ?_
    exact hK196 hN hNN hag h

set_option maxHeartbeats 4000000 in
set_option maxRecDepth 20000 in
theorem wL_more_L196  {N1 : Nat} {ln1 : Nat → Nat} {A1 : gM} {r : Nat} (C : gC p (g_rmx 110 20 300) s m args meth c cL_more RL 11 D g (va_A (gw g ad0 ln0 A0 N0) s.heap.size) 110) (CX : gCP l s (va_A (gw g ad0 ln0 A0 N0) s.heap.size) b L xs) (hr : meth.sig.returnType = some (.array (.array .int)))  : ∀ (f : Nat) {N : Nat} {ad ln : Nat → Nat} (hN : 183 ≤ N) (hNN : N0 ≤ N) (hag : ∀ i, i < N0 → ad i = ad0 i) {k n : Nat} {A : gM} {x1 : Nat} {x2 : Int32} {x3 : Int32} {x4 : Nat} {x5 : Int32} {x6 : Int32} {x7 : Nat} {x8 : Int32} {x9 : Int32}, mL_more_L196 xs L f N ln k n A x1 x2 x3 x4 x5 x6 x7 x8 x9 = some (N1, ln1, A1, r) → gJ p l e (g_rmx 110 20 300) s m args below meth c (gEPr below D g N0 ad0 ln0 A0 N1 ln1 A1 r 20 300 args s) 11 D g (va_A (gw g ad0 ln0 A0 N0) s.heap.size) N ad ln A [(0, gr 0), (1, gr x1), (2, gi x2), (3, gi x3), (4, gr x4), (5, gi x5), (6, gi x6), (7, gr x7), (8, gi x8), (9, gi x9)] k n 196 []
  | 0, N, ad, ln, hN, hNN, hag, k, n, A, x1, x2, x3, x4, x5, x6, x7, x8, x9, h => by cases h
  | f + 1, N, ad, ln, hN, hNN, hag, k, n, A, x1, x2, x3, x4, x5, x6, x7, x8, x9, h => wL_more_b196 C CX hr (fun hN hNN hag _ _ _ _ _ _ _ _ _ _ _ _ h => wL_more_L196 C CX hr f hN hNN hag h) hN hNN hag h
set_option maxHeartbeats 4000000 in
set_option maxRecDepth 20000 in
theorem wL_more_b191  {N1 : Nat} {ln1 : Nat → Nat} {A1 : gM} {r : Nat} (C : gC p (g_rmx 110 20 300) s m args meth c cL_more RL 11 D g (va_A (gw g ad0 ln0 A0 N0) s.heap.size) 110) (CX : gCP l s (va_A (gw g ad0 ln0 A0 N0) s.heap.size) b L xs) (hr : meth.sig.returnType = some (.array (.array .int)))  {N : Nat} {ad ln : Nat → Nat} (hN : 183 ≤ N) (hNN : N0 ≤ N) (hag : ∀ i, i < N0 → ad i = ad0 i) {k n : Nat} {A : gM} {x1 : Nat} {x2 : Int32} {x3 : Int32} {x4 : Nat} {x5 : Int32} {x6 : Int32} {x7 : Nat} {s0 : Int32} (h : mL_more_b191 xs L N ln k n A x1 x2 x3 x4 x5 x6 x7 s0 = some (N1, ln1, A1, r)) : gJ p l e (g_rmx 110 20 300) s m args below meth c (gEPr below D g N0 ad0 ln0 A0 N1 ln1 A1 r 20 300 args s) 11 D g (va_A (gw g ad0 ln0 A0 N0) s.heap.size) N ad ln A [(0, gr 0), (1, gr x1), (2, gi x2), (3, gi x3), (4, gr x4), (5, gi x5), (6, gi x6), (7, gr x7)] k n 191 [gi s0] := by
  unfold mL_more_b191 at h
  refine g_istore C dL_more_191 (by decide) rfl ?_
  refine g_iconst (v := 0) C dL_more_193 (by decide) ?_
  refine g_istore C dL_more_194 (by decide) rfl ?_
  refine g_sub [2, 3, 4, 5, 6, 7, 8, 9, 1, 0] rfl ?_
  exact wL_more_L196 C CX hr gF hN hNN hag h

set_option maxHeartbeats 4000000 in
set_option maxRecDepth 20000 in
theorem wL_more_b175  {N1 : Nat} {ln1 : Nat → Nat} {A1 : gM} {r : Nat} (C : gC p (g_rmx 110 20 300) s m args meth c cL_more RL 11 D g (va_A (gw g ad0 ln0 A0 N0) s.heap.size) 110) (CX : gCP l s (va_A (gw g ad0 ln0 A0 N0) s.heap.size) b L xs) (hr : meth.sig.returnType = some (.array (.array .int)))  {N : Nat} {ad ln : Nat → Nat} (hN : 183 ≤ N) (hNN : N0 ≤ N) (hag : ∀ i, i < N0 → ad i = ad0 i) {k n : Nat} {A : gM} {x1 : Nat} {x2 : Int32} {x3 : Int32} {x4 : Nat} {x5 : Int32} {x6 : Int32} {x7 : Nat} (h : mL_more_b175 xs L N ln k n A x1 x2 x3 x4 x5 x6 x7 = some (N1, ln1, A1, r)) : gJ p l e (g_rmx 110 20 300) s m args below meth c (gEPr below D g N0 ad0 ln0 A0 N1 ln1 A1 r 20 300 args s) 11 D g (va_A (gw g ad0 ln0 A0 N0) s.heap.size) N ad ln A [(0, gr 0), (1, gr x1), (2, gi x2), (3, gi x3), (4, gr x4), (5, gi x5), (6, gi x6), (7, gr x7)] k n 175 [] := by
  unfold mL_more_b175 at h
  refine g_iconst (v := 1) C dL_more_175 (by decide) ?_
  refine g_goto C dL_more_176 (tgt := 191) (by decide) ?_
  refine g_sub [0, 1, 2, 3, 4, 5, 6, 7] rfl ?_
  exact wL_more_b191 C CX hr hN hNN hag h

set_option maxHeartbeats 4000000 in
set_option maxRecDepth 20000 in
theorem wL_more_b115  {N1 : Nat} {ln1 : Nat → Nat} {A1 : gM} {r : Nat} (C : gC p (g_rmx 110 20 300) s m args meth c cL_more RL 11 D g (va_A (gw g ad0 ln0 A0 N0) s.heap.size) 110) (CX : gCP l s (va_A (gw g ad0 ln0 A0 N0) s.heap.size) b L xs) (hr : meth.sig.returnType = some (.array (.array .int)))  {N : Nat} {ad ln : Nat → Nat} (hN : 183 ≤ N) (hNN : N0 ≤ N) (hag : ∀ i, i < N0 → ad i = ad0 i) {k n : Nat} {A : gM} {x1 : Nat} {x2 : Int32} {x3 : Int32} {x4 : Nat} {s0 : Int32} (h : mL_more_b115 xs L N ln k n A x1 x2 x3 x4 s0 = some (N1, ln1, A1, r)) : gJ p l e (g_rmx 110 20 300) s m args below meth c (gEPr below D g N0 ad0 ln0 A0 N1 ln1 A1 r 20 300 args s) 11 D g (va_A (gw g ad0 ln0 A0 N0) s.heap.size) N ad ln A [(0, gr 0), (1, gr x1), (2, gi x2), (3, gi x3), (4, gr x4)] k n 115 [gi s0] := by
  unfold mL_more_b115 at h
  refine g_istore C dL_more_115 (by decide) rfl ?_
  refine g_iload_n C 3 dL_more_117 rfl ?_
  refine g_iconst (v := 4) C dL_more_118 (by decide) ?_
  refine g_ishr C dL_more_119 ?_
  refine g_iconst (v := 3) C dL_more_120 (by decide) ?_
  obtain ⟨hg2, h⟩ := g_gd h
  obtain ⟨q1, eq1, h⟩ := g_bd h
  refine g_calliS C [gi (x2 >>> (4 &&& 31)), gi 3] (kL_below hN eq1) qs_L_55 (by omega) rfl rfl (Nat.le_of_ble_eq_true rfl) hg2 dL_more_121 ?_
  refine g_istore C dL_more_124 (by decide) rfl ?_
  refine g_iconst (v := 5) C dL_more_126 (by decide) ?_
  obtain ⟨⟨hg3a, hg3b, hg3_0, hg3_1⟩, h⟩ := g_gd h
  obtain ⟨N6, eN6, h⟩ := g_lt h
  obtain ⟨ln4, eln4, h⟩ := g_lt h
  obtain ⟨A5, eA5, h⟩ := g_lt h
  refine g_newJ C hN qa_int ⟨hg3a.2, rfl, hg3a.1⟩ hg3b ⟨(by omega), hg3_0, hg3_1, trivial⟩ trivial dL_more_127 (fun q => ?_)
  rw [eN6, eln4, eA5]
  have hgq : ∀ i, i < N → va_up ad N q i = ad i := g_up_o
  generalize va_up ad N q = ad at hgq ⊢
  have hag : ∀ i, i < N0 → ad i = ad0 i := fun i hi => (hgq i (by omega)).trans (hag i hi)
  have hNN : N0 ≤ N6 := by omega
  have hN : 183 ≤ N6 := by omega
  refine g_dup_r C dL_more_129 ?_
  refine g_iconst (v := 0) C dL_more_130 (by decide) ?_
  refine g_iload C 1 dL_more_131 rfl ?_
  obtain ⟨hg7, h⟩ := g_gd h
  obtain ⟨A8, eA8, h⟩ := g_lt h
  refine g_jast C N hg7 eA8 dL_more_133 ?_
  refine g_dup_r C dL_more_134 ?_
  refine g_iconst (v := 1) C dL_more_135 (by decide) ?_
  refine g_iconst (v := (-1)) C dL_more_136 (by decide) ?_
  obtain ⟨hg9, h⟩ := g_gd h
  obtain ⟨A10, eA10, h⟩ := g_lt h
  refine g_jast C N hg9 eA10 dL_more_137 ?_
  refine g_dup_r C dL_more_138 ?_
  refine g_iconst (v := 2) C dL_more_139 (by decide) ?_
  refine g_iconst (v := (-1)) C dL_more_140 (by decide) ?_
  obtain ⟨hg11, h⟩ := g_gd h
  obtain ⟨A12, eA12, h⟩ := g_lt h
  refine g_jast C N hg11 eA12 dL_more_141 ?_
  refine g_dup_r C dL_more_142 ?_
  refine g_iconst (v := 3) C dL_more_143 (by decide) ?_
  refine g_iconst (v := (-1)) C dL_more_144 (by decide) ?_
  obtain ⟨hg13, h⟩ := g_gd h
  obtain ⟨A14, eA14, h⟩ := g_lt h
  refine g_jast C N hg13 eA14 dL_more_145 ?_
  refine g_dup_r C dL_more_146 ?_
  refine g_iconst (v := 4) C dL_more_147 (by decide) ?_
  refine g_iconst (v := (-1)) C dL_more_148 (by decide) ?_
  obtain ⟨hg15, h⟩ := g_gd h
  obtain ⟨A16, eA16, h⟩ := g_lt h
  refine g_jast C N hg15 eA16 dL_more_149 ?_
  refine g_astore C dL_more_150 (by decide) rfl ?_
  refine g_iload C 2 dL_more_152 rfl ?_
  refine g_iconst (v := 3) C dL_more_154 (by decide) ?_
  refine g_icmp_ge C dL_more_155 (tgt := 162) (by decide) (fun c17 => ?_) (fun c17 => ?_)
  · have h := g_tt c17 h
    refine g_iload C 2 dL_more_162 rfl ?_
    refine g_iconst (v := 3) C dL_more_164 (by decide) ?_
    refine g_icmp_eq C dL_more_165 (tgt := 175) (by decide) (fun c18 => ?_) (fun c18 => ?_)
    · have h := g_tt c18 h
      refine g_sub [3, 4, 5, 6, 7, 2, 1, 0] rfl ?_
      exact wL_more_b175 C CX hr hN hNN hag h
    · have h := g_ff c18 h
      refine g_iload C 2 dL_more_168 rfl ?_
      refine g_bipush (v := 7) C dL_more_170 (by decide) ?_
      refine g_icmp_ne C dL_more_172 (tgt := 179) (by decide) (fun c19 => ?_) (fun c19 => ?_)
      · have h := g_ff c19 h
        refine g_iload C 2 dL_more_179 rfl ?_
        refine g_bipush (v := 8) C dL_more_181 (by decide) ?_
        refine g_icmp_ne C dL_more_183 (tgt := 190) (by decide) (fun c20 => ?_) (fun c20 => ?_)
        · have h := g_ff c20 h
          refine g_iconst (v := 2) C dL_more_190 (by decide) ?_
          refine g_sub [3, 4, 5, 6, 7, 2, 1, 0] rfl ?_
          exact wL_more_b191 C CX hr hN hNN hag h
        · have h := g_tt c20 h
          refine g_iconst (v := 3) C dL_more_186 (by decide) ?_
          refine g_goto C dL_more_187 (tgt := 191) (by decide) ?_
          refine g_sub [3, 4, 5, 6, 7, 2, 1, 0] rfl ?_
          exact wL_more_b191 C CX hr hN hNN hag h
      · have h := g_tt c19 h
        refine g_sub [3, 4, 5, 6, 7, 2, 1, 0] rfl ?_
        exact wL_more_b175 C CX hr hN hNN hag h
  · have h := g_ff c17 h
    refine g_iconst (v := 0) C dL_more_158 (by decide) ?_
    refine g_goto C dL_more_159 (tgt := 191) (by decide) ?_
    refine g_sub [3, 4, 5, 6, 7, 2, 1, 0] rfl ?_
    exact wL_more_b191 C CX hr hN hNN hag h

set_option maxHeartbeats 4000000 in
set_option maxRecDepth 20000 in
theorem wL_more_b74  {N1 : Nat} {ln1 : Nat → Nat} {A1 : gM} {r : Nat} (C : gC p (g_rmx 110 20 300) s m args meth c cL_more RL 11 D g (va_A (gw g ad0 ln0 A0 N0) s.heap.size) 110) (CX : gCP l s (va_A (gw g ad0 ln0 A0 N0) s.heap.size) b L xs) (hr : meth.sig.returnType = some (.array (.array .int)))  {N : Nat} {ad ln : Nat → Nat} (hN : 183 ≤ N) (hNN : N0 ≤ N) (hag : ∀ i, i < N0 → ad i = ad0 i) {k n : Nat} {A : gM} {x1 : Nat} {x2 : Int32} {x3 : Int32} {x4 : Nat} (h : mL_more_b74 xs L N ln k n A x1 x2 x3 x4 = some (N1, ln1, A1, r)) : gJ p l e (g_rmx 110 20 300) s m args below meth c (gEPr below D g N0 ad0 ln0 A0 N1 ln1 A1 r 20 300 args s) 11 D g (va_A (gw g ad0 ln0 A0 N0) s.heap.size) N ad ln A [(0, gr 0), (1, gr x1), (2, gi x2), (3, gi x3), (4, gr x4)] k n 74 [] := by
  unfold mL_more_b74 at h
  refine g_iload_n C 3 dL_more_74 rfl ?_
  refine g_if_ne C dL_more_75 (tgt := 86) (by decide) (fun c1 => ?_) (fun c1 => ?_)
  · have h := g_ff c1 h
    refine g_iload_n C 2 dL_more_86 rfl ?_
    refine g_iconst (v := 5) C dL_more_87 (by decide) ?_
    refine g_ishr C dL_more_88 ?_
    refine g_iconst (v := 3) C dL_more_89 (by decide) ?_
    obtain ⟨hg3, h⟩ := g_gd h
    obtain ⟨q2, eq2, h⟩ := g_bd h
    refine g_calliS C [gi (x2 >>> (5 &&& 31)), gi 3] (kL_below hN eq2) qs_L_55 (by omega) rfl rfl (Nat.le_of_ble_eq_true rfl) hg3 dL_more_90 ?_
    refine g_if_ne C dL_more_93 (tgt := 104) (by decide) (fun c4 => ?_) (fun c4 => ?_)
    · have h := g_ff c4 h
      refine g_iconst (v := 3) C dL_more_104 (by decide) ?_
      refine g_iload_n C 2 dL_more_105 rfl ?_
      refine g_bipush (v := 9) C dL_more_106 (by decide) ?_
      refine g_ishr C dL_more_108 ?_
      refine g_bipush (v := 6) C dL_more_109 (by decide) ?_
      obtain ⟨hg6, h⟩ := g_gd h
      obtain ⟨q5, eq5, h⟩ := g_bd h
      refine g_calliS C [gi (x2 >>> (9 &&& 31)), gi 6] (kL_below hN eq5) qs_L_55 (by omega) rfl rfl (Nat.le_of_ble_eq_true rfl) hg6 dL_more_111 ?_
      refine g_iadd C dL_more_114 ?_
      refine g_sub [0, 1, 2, 3, 4] rfl ?_
      exact wL_more_b115 C CX hr hN hNN hag h
    · have h := g_tt c4 h
      refine g_iload_n C 2 dL_more_96 rfl ?_
      refine g_iconst (v := 3) C dL_more_97 (by decide) ?_
      obtain ⟨hg8, h⟩ := g_gd h
      obtain ⟨q7, eq7, h⟩ := g_bd h
      refine g_calliS C [gi x2, gi 3] (kL_below hN eq7) qs_L_55 (by omega) rfl rfl (Nat.le_of_ble_eq_true rfl) hg8 dL_more_98 ?_
      refine g_goto C dL_more_101 (tgt := 115) (by decide) ?_
      refine g_sub [0, 1, 2, 3, 4] rfl ?_
      exact wL_more_b115 C CX hr hN hNN hag h
  · have h := g_tt c1 h
    refine g_iload_n C 2 dL_more_78 rfl ?_
    refine g_iconst (v := 3) C dL_more_79 (by decide) ?_
    obtain ⟨hg10, h⟩ := g_gd h
    obtain ⟨q9, eq9, h⟩ := g_bd h
    refine g_calliS C [gi x2, gi 3] (kL_below hN eq9) qs_L_55 (by omega) rfl rfl (Nat.le_of_ble_eq_true rfl) hg10 dL_more_80 ?_
    refine g_goto C dL_more_83 (tgt := 115) (by decide) ?_
    refine g_sub [0, 1, 2, 3, 4] rfl ?_
    exact wL_more_b115 C CX hr hN hNN hag h

set_option maxHeartbeats 4000000 in
set_option maxRecDepth 20000 in
theorem wL_more_b67  {N1 : Nat} {ln1 : Nat → Nat} {A1 : gM} {r : Nat} (C : gC p (g_rmx 110 20 300) s m args meth c cL_more RL 11 D g (va_A (gw g ad0 ln0 A0 N0) s.heap.size) 110) (CX : gCP l s (va_A (gw g ad0 ln0 A0 N0) s.heap.size) b L xs) (hr : meth.sig.returnType = some (.array (.array .int))) {K11 : Nat → (Nat → Nat) → Nat → Nat → gM → Nat → Int32 → Int32 → Nat → Int32 → Option (Nat × (Nat → Nat) × gM × Nat)} (hK11 : ∀ {N : Nat} {ad ln : Nat → Nat} (hN : 183 ≤ N) (hNN : N0 ≤ N) (hag : ∀ i, i < N0 → ad i = ad0 i) {k n : Nat} {A : gM} {x1 : Nat} {x2 : Int32} {x3 : Int32} {x4 : Nat} {x5 : Int32}, K11 N ln k n A x1 x2 x3 x4 x5 = some (N1, ln1, A1, r) → gJ p l e (g_rmx 110 20 300) s m args below meth c (gEPr below D g N0 ad0 ln0 A0 N1 ln1 A1 r 20 300 args s) 11 D g (va_A (gw g ad0 ln0 A0 N0) s.heap.size) N ad ln A [(0, gr 0), (1, gr x1), (2, gi x2), (3, gi x3), (4, gr x4), (5, gi x5)] k n 11 []) {N : Nat} {ad ln : Nat → Nat} (hN : 183 ≤ N) (hNN : N0 ≤ N) (hag : ∀ i, i < N0 → ad i = ad0 i) {k n : Nat} {A : gM} {x1 : Nat} {x2 : Int32} {x3 : Int32} {x4 : Nat} {x5 : Int32} {s0 : Nat} {s1 : Int32} {s2 : Int32} (h : mL_more_b67 xs L K11 N ln k n A x1 x2 x3 x4 x5 s0 s1 s2 = some (N1, ln1, A1, r)) : gJ p l e (g_rmx 110 20 300) s m args below meth c (gEPr below D g N0 ad0 ln0 A0 N1 ln1 A1 r 20 300 args s) 11 D g (va_A (gw g ad0 ln0 A0 N0) s.heap.size) N ad ln A [(0, gr 0), (1, gr x1), (2, gi x2), (3, gi x3), (4, gr x4), (5, gi x5)] k n 67 [gi s2, gi s1, gr s0] := by
  unfold mL_more_b67 at h
  obtain ⟨hg1, h⟩ := g_gd h
  obtain ⟨A2, eA2, h⟩ := g_lt h
  refine g_jast C s0 hg1 eA2 dL_more_67 ?_
  obtain ⟨v3, ev3, h⟩ := g_lt h
  refine g_iinc C 5 dL_more_68 rfl ev3 (by decide) rfl ?_
  refine g_goto C dL_more_71 (tgt := 11) (by decide) ?_
  refine g_sub [1, 2, 3, 4, 5, 0] rfl ?_
  exact hK11 hN hNN hag h

set_option maxHeartbeats 4000000 in
set_option maxRecDepth 20000 in
theorem wL_more_b11  {N1 : Nat} {ln1 : Nat → Nat} {A1 : gM} {r : Nat} (C : gC p (g_rmx 110 20 300) s m args meth c cL_more RL 11 D g (va_A (gw g ad0 ln0 A0 N0) s.heap.size) 110) (CX : gCP l s (va_A (gw g ad0 ln0 A0 N0) s.heap.size) b L xs) (hr : meth.sig.returnType = some (.array (.array .int))) {K11 : Nat → (Nat → Nat) → Nat → Nat → gM → Nat → Int32 → Int32 → Nat → Int32 → Option (Nat × (Nat → Nat) × gM × Nat)} (hK11 : ∀ {N : Nat} {ad ln : Nat → Nat} (hN : 183 ≤ N) (hNN : N0 ≤ N) (hag : ∀ i, i < N0 → ad i = ad0 i) {k n : Nat} {A : gM} {x1 : Nat} {x2 : Int32} {x3 : Int32} {x4 : Nat} {x5 : Int32}, K11 N ln k n A x1 x2 x3 x4 x5 = some (N1, ln1, A1, r) → gJ p l e (g_rmx 110 20 300) s m args below meth c (gEPr below D g N0 ad0 ln0 A0 N1 ln1 A1 r 20 300 args s) 11 D g (va_A (gw g ad0 ln0 A0 N0) s.heap.size) N ad ln A [(0, gr 0), (1, gr x1), (2, gi x2), (3, gi x3), (4, gr x4), (5, gi x5)] k n 11 []) {N : Nat} {ad ln : Nat → Nat} (hN : 183 ≤ N) (hNN : N0 ≤ N) (hag : ∀ i, i < N0 → ad i = ad0 i) {k n : Nat} {A : gM} {x1 : Nat} {x2 : Int32} {x3 : Int32} {x4 : Nat} {x5 : Int32} (h : mL_more_b11 xs L K11 N ln k n A x1 x2 x3 x4 x5 = some (N1, ln1, A1, r)) : gJ p l e (g_rmx 110 20 300) s m args below meth c (gEPr below D g N0 ad0 ln0 A0 N1 ln1 A1 r 20 300 args s) 11 D g (va_A (gw g ad0 ln0 A0 N0) s.heap.size) N ad ln A [(0, gr 0), (1, gr x1), (2, gi x2), (3, gi x3), (4, gr x4), (5, gi x5)] k n 11 [] := by
  unfold mL_more_b11 at h
  refine g_iload C 5 dL_more_11 rfl ?_
  refine g_iconst (v := 3) C dL_more_13 (by decide) ?_
  refine g_icmp_ge C dL_more_14 (tgt := 74) (by decide) (fun c1 => ?_) (fun c1 => ?_)
  · have h := g_tt c1 h
    refine g_sub [0, 1, 2, 3, 4] rfl ?_
    exact wL_more_b74 C CX hr hN hNN hag h
  · have h := g_ff c1 h
    refine g_iload_n C 3 dL_more_17 rfl ?_
    refine g_if_le C dL_more_18 (tgt := 74) (by decide) (fun c2 => ?_) (fun c2 => ?_)
    · have h := g_tt c2 h
      refine g_sub [0, 1, 2, 3, 4] rfl ?_
      exact wL_more_b74 C CX hr hN hNN hag h
    · have h := g_ff c2 h
      refine g_aload C 4 dL_more_21 rfl ?_
      refine g_iload C 5 dL_more_23 rfl ?_
      refine g_iload_n C 2 dL_more_25 rfl ?_
      refine g_iload C 5 dL_more_26 rfl ?_
      refine g_ishr C dL_more_28 ?_
      refine g_iconst (v := 3) C dL_more_29 (by decide) ?_
      obtain ⟨hg4, h⟩ := g_gd h
      obtain ⟨q3, eq3, h⟩ := g_bd h
      refine g_calliS C [gi (x2 >>> (x5 &&& 31)), gi 3] (kL_below hN eq3) qs_L_55 (by omega) rfl rfl (Nat.le_of_ble_eq_true rfl) hg4 dL_more_30 ?_
      refine g_if_ne C dL_more_33 (tgt := 49) (by decide) (fun c5 => ?_) (fun c5 => ?_)
      · have h := g_ff c5 h
        refine g_iload_n C 3 dL_more_49 rfl ?_
        refine g_iconst (v := 1) C dL_more_50 (by decide) ?_
        refine g_isub C dL_more_51 ?_
        refine g_iload_n C 2 dL_more_52 rfl ?_
        refine g_iconst (v := 3) C dL_more_53 (by decide) ?_
        refine g_iload C 5 dL_more_54 rfl ?_
        refine g_imul C dL_more_56 ?_
        refine g_ishr C dL_more_57 ?_
        refine g_iload_n C 3 dL_more_58 rfl ?_
        refine g_iconst (v := 4) C dL_more_59 (by decide) ?_
        obtain ⟨hg7, h⟩ := g_gd h
        obtain ⟨v6, ev6, h⟩ := g_lt h
        refine g_mmin C qm_L_58 (by omega) (Nat.le_of_ble_eq_true rfl) hg7 dL_more_60 ?_
        refine g_topi ev6 ?_
        obtain ⟨hg9, h⟩ := g_gd h
        obtain ⟨q8, eq8, h⟩ := g_bd h
        refine g_calliS C [gi (x2 >>> ((3 * x5) &&& 31)), gi v6] (kL_below hN eq8) qs_L_55 (by omega) rfl rfl (Nat.le_of_ble_eq_true rfl) hg9 dL_more_63 ?_
        refine g_isub C dL_more_66 ?_
        refine g_sub [0, 1, 2, 3, 4, 5] rfl ?_
        exact wL_more_b67 C CX hr hK11 hN hNN hag h
      · have h := g_tt c5 h
        refine g_iload_n C 2 dL_more_36 rfl ?_
        refine g_iconst (v := 2) C dL_more_37 (by decide) ?_
        refine g_iload C 5 dL_more_38 rfl ?_
        refine g_imul C dL_more_40 ?_
        refine g_ishr C dL_more_41 ?_
        refine g_iload_n C 3 dL_more_42 rfl ?_
        obtain ⟨hg11, h⟩ := g_gd h
        obtain ⟨q10, eq10, h⟩ := g_bd h
        refine g_calliS C [gi (x2 >>> ((2 * x5) &&& 31)), gi x3] (kL_below hN eq10) qs_L_55 (by omega) rfl rfl (Nat.le_of_ble_eq_true rfl) hg11 dL_more_43 ?_
        refine g_goto C dL_more_46 (tgt := 67) (by decide) ?_
        refine g_sub [0, 1, 2, 3, 4, 5] rfl ?_
        exact wL_more_b67 C CX hr hK11 hN hNN hag h

set_option maxHeartbeats 4000000 in
set_option maxRecDepth 20000 in
theorem wL_more_L11  {N1 : Nat} {ln1 : Nat → Nat} {A1 : gM} {r : Nat} (C : gC p (g_rmx 110 20 300) s m args meth c cL_more RL 11 D g (va_A (gw g ad0 ln0 A0 N0) s.heap.size) 110) (CX : gCP l s (va_A (gw g ad0 ln0 A0 N0) s.heap.size) b L xs) (hr : meth.sig.returnType = some (.array (.array .int)))  : ∀ (f : Nat) {N : Nat} {ad ln : Nat → Nat} (hN : 183 ≤ N) (hNN : N0 ≤ N) (hag : ∀ i, i < N0 → ad i = ad0 i) {k n : Nat} {A : gM} {x1 : Nat} {x2 : Int32} {x3 : Int32} {x4 : Nat} {x5 : Int32}, mL_more_L11 xs L f N ln k n A x1 x2 x3 x4 x5 = some (N1, ln1, A1, r) → gJ p l e (g_rmx 110 20 300) s m args below meth c (gEPr below D g N0 ad0 ln0 A0 N1 ln1 A1 r 20 300 args s) 11 D g (va_A (gw g ad0 ln0 A0 N0) s.heap.size) N ad ln A [(0, gr 0), (1, gr x1), (2, gi x2), (3, gi x3), (4, gr x4), (5, gi x5)] k n 11 []
  | 0, N, ad, ln, hN, hNN, hag, k, n, A, x1, x2, x3, x4, x5, h => by cases h
  | f + 1, N, ad, ln, hN, hNN, hag, k, n, A, x1, x2, x3, x4, x5, h => wL_more_b11 C CX hr (fun hN hNN hag _ _ _ _ _ _ _ _ h => wL_more_L11 C CX hr f hN hNN hag h) hN hNN hag h
set_option maxHeartbeats 4000000 in
set_option maxRecDepth 20000 in
theorem wL_more_b0  {N1 : Nat} {ln1 : Nat → Nat} {A1 : gM} {r : Nat} (C : gC p (g_rmx 110 20 300) s m args meth c cL_more RL 11 D g (va_A (gw g ad0 ln0 A0 N0) s.heap.size) 110) (CX : gCP l s (va_A (gw g ad0 ln0 A0 N0) s.heap.size) b L xs) (hr : meth.sig.returnType = some (.array (.array .int)))  {N : Nat} {ad ln : Nat → Nat} (hN : 183 ≤ N) (hNN : N0 ≤ N) (hag : ∀ i, i < N0 → ad i = ad0 i) {k n : Nat} {A : gM} {x1 : Nat} {x2 : Int32} (h : mL_more_b0 xs L N ln k n A x1 x2 = some (N1, ln1, A1, r)) : gJ p l e (g_rmx 110 20 300) s m args below meth c (gEPr below D g N0 ad0 ln0 A0 N1 ln1 A1 r 20 300 args s) 11 D g (va_A (gw g ad0 ln0 A0 N0) s.heap.size) N ad ln A [(0, gr 0), (1, gr x1), (2, gi x2)] k n 0 [] := by
  unfold mL_more_b0 at h
  refine g_aload_n C 1 dL_more_0 rfl ?_
  obtain ⟨hg1, h⟩ := g_gd h
  refine g_rlen C x1 hg1 dL_more_1 ?_
  obtain ⟨v2, ev2, h⟩ := g_lt h
  refine g_topi ev2 ?_
  refine g_istore_n C dL_more_2 (by decide) rfl ?_
  refine g_iconst (v := 3) C dL_more_3 (by decide) ?_
  obtain ⟨⟨hg3a, hg3b, hg3_0⟩, h⟩ := g_gd h
  obtain ⟨N6, eN6, h⟩ := g_lt h
  obtain ⟨ln4, eln4, h⟩ := g_lt h
  obtain ⟨A5, eA5, h⟩ := g_lt h
  refine g_newJ C hN qa_int ⟨hg3a.2, rfl, hg3a.1⟩ hg3b ⟨(by omega), hg3_0, trivial⟩ trivial dL_more_4 (fun q => ?_)
  rw [eN6, eln4, eA5]
  have hgq : ∀ i, i < N → va_up ad N q i = ad i := g_up_o
  generalize va_up ad N q = ad at hgq ⊢
  have hag : ∀ i, i < N0 → ad i = ad0 i := fun i hi => (hgq i (by omega)).trans (hag i hi)
  have hNN : N0 ≤ N6 := by omega
  have hN : 183 ≤ N6 := by omega
  refine g_astore C dL_more_6 (by decide) rfl ?_
  refine g_iconst (v := 0) C dL_more_8 (by decide) ?_
  refine g_istore C dL_more_9 (by decide) rfl ?_
  refine g_sub [3, 4, 5, 2, 1, 0] rfl ?_
  exact wL_more_L11 C CX hr gF hN hNN hag h

set_option maxHeartbeats 4000000 in
set_option maxRecDepth 20000 in
theorem kL_more {l : Launch} {D : va_G} {g : gT} {N b L : Nat} {xs : Nat → Int32} {ad ln : Nat → Nat} (hN : 183 ≤ N) (hl : l.stackTraces = false)  {A : gM} {x1 : Nat} {x2 : Int32} {N1 : Nat} {ln1 : Nat → Nat} {A1 : gM} {r : Nat} (h : mL_more xs L N ln A x1 x2 = some (N1, ln1, A1, r)) : gPr l yL_more cL_more 11 (some (.array (.array .int))) (110) 20 300 D g N ad ln A b L xs [gr 0, gr x1, gi x2] N1 ln1 A1 r := by
  refine g_metPr hl (by decide) (Nat.le_of_ble_eq_true rfl) ?_
  intro p e s m args below meth c C CX hr
  refine g_sub [0, 1, 2] rfl ?_
  exact wL_more_b0 C CX hr hN (Nat.le_refl _) (fun _ _ => rfl) h
end L18
