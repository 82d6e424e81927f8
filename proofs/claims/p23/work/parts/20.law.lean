theorem qs_L_101 : g_site RL RX5 101 yX5_undo cX5_undo 2 (some .int) 0 := ⟨g_tb (List.mem_of_getElem? (i := 538) (by decide +kernel)) (by decide +kernel), g_tb (List.mem_of_getElem? (i := 539) (by decide +kernel)) (by decide +kernel), g_tb (List.mem_of_getElem? (i := 540) (by decide +kernel)) (by decide +kernel), g_tb (List.mem_of_getElem? (i := 33) (by decide +kernel)) (by decide +kernel), g_tb (List.mem_of_getElem? (i := 541) (by decide +kernel)) (by decide +kernel), ⟨rfl, by decide, by decide, by decide +kernel⟩, by decide⟩
theorem qs_L_105 : g_site RL RX5 105 yX5_count cX5_count 2 (some .int) 1 := ⟨g_tb (List.mem_of_getElem? (i := 564) (by decide +kernel)) (by decide +kernel), g_tb (List.mem_of_getElem? (i := 565) (by decide +kernel)) (by decide +kernel), g_tb (List.mem_of_getElem? (i := 566) (by decide +kernel)) (by decide +kernel), g_tb (List.mem_of_getElem? (i := 33) (by decide +kernel)) (by decide +kernel), g_tb (List.mem_of_getElem? (i := 567) (by decide +kernel)) (by decide +kernel), ⟨rfl, by decide, by decide, by decide +kernel⟩, by decide⟩
theorem qs_L_108 : g_site RL RX5 108 yX5_same cX5_same 3 (some .boolean) 2 := ⟨g_tb (List.mem_of_getElem? (i := 572) (by decide +kernel)) (by decide +kernel), g_tb (List.mem_of_getElem? (i := 573) (by decide +kernel)) (by decide +kernel), g_tb (List.mem_of_getElem? (i := 574) (by decide +kernel)) (by decide +kernel), g_tb (List.mem_of_getElem? (i := 33) (by decide +kernel)) (by decide +kernel), g_tb (List.mem_of_getElem? (i := 575) (by decide +kernel)) (by decide +kernel), ⟨rfl, by decide, by decide, by decide +kernel⟩, by decide⟩
theorem qs_L_112 : g_site RL RX5 112 yX5_goes cX5_goes 3 (some .int) 2 := ⟨g_tb (List.mem_of_getElem? (i := 585) (by decide +kernel)) (by decide +kernel), g_tb (List.mem_of_getElem? (i := 586) (by decide +kernel)) (by decide +kernel), g_tb (List.mem_of_getElem? (i := 587) (by decide +kernel)) (by decide +kernel), g_tb (List.mem_of_getElem? (i := 33) (by decide +kernel)) (by decide +kernel), g_tb (List.mem_of_getElem? (i := 588) (by decide +kernel)) (by decide +kernel), ⟨rfl, by decide, by decide, by decide +kernel⟩, by decide⟩
theorem qs_L_49 : g_site RL RX5 49 yX5_code cX5_code 3 (some .int) 2 := ⟨g_tb (List.mem_of_getElem? (i := 559) (by decide +kernel)) (by decide +kernel), g_tb (List.mem_of_getElem? (i := 560) (by decide +kernel)) (by decide +kernel), g_tb (List.mem_of_getElem? (i := 561) (by decide +kernel)) (by decide +kernel), g_tb (List.mem_of_getElem? (i := 33) (by decide +kernel)) (by decide +kernel), g_tb (List.mem_of_getElem? (i := 562) (by decide +kernel)) (by decide +kernel), ⟨rfl, by decide, by decide, by decide +kernel⟩, by decide⟩
theorem qs_L_52 : g_site RL RX5 52 yX5_part cX5_part 3 (some .int) 2 := ⟨g_tb (List.mem_of_getElem? (i := 546) (by decide +kernel)) (by decide +kernel), g_tb (List.mem_of_getElem? (i := 547) (by decide +kernel)) (by decide +kernel), g_tb (List.mem_of_getElem? (i := 548) (by decide +kernel)) (by decide +kernel), g_tb (List.mem_of_getElem? (i := 33) (by decide +kernel)) (by decide +kernel), g_tb (List.mem_of_getElem? (i := 549) (by decide +kernel)) (by decide +kernel), ⟨rfl, by decide, by decide, by decide +kernel⟩, by decide⟩
theorem qs_L_115 : g_siteS RL 115 yL_isFault cL_isFault 8 (some .boolean) 4 := ⟨g_tb (List.mem_of_getElem? (i := 622) (by decide +kernel)) (by decide +kernel), g_tb (List.mem_of_getElem? (i := 623) (by decide +kernel)) (by decide +kernel), g_tb (List.mem_of_getElem? (i := 32) (by decide +kernel)) (by decide +kernel), g_tb (List.mem_of_getElem? (i := 624) (by decide +kernel)) (by decide +kernel), ⟨rfl, by decide, by decide, by decide +kernel⟩, by decide⟩
theorem qs_L_97 : g_siteS RL 97 yL_build cL_build 5 (some (.array (.array .int))) 2 := ⟨g_tb (List.mem_of_getElem? (i := 611) (by decide +kernel)) (by decide +kernel), g_tb (List.mem_of_getElem? (i := 612) (by decide +kernel)) (by decide +kernel), g_tb (List.mem_of_getElem? (i := 32) (by decide +kernel)) (by decide +kernel), g_tb (List.mem_of_getElem? (i := 613) (by decide +kernel)) (by decide +kernel), ⟨rfl, by decide, by decide, by decide +kernel⟩, by decide⟩
theorem dL_law_8 : decode cL_law 8 = .ok (.aload_n 1, 1) := by decide +kernel
theorem dL_law_9 : decode cL_law 9 = .ok (.aload_n 0, 1) := by decide +kernel
theorem dL_law_10 : decode cL_law 10 = .ok (.invokestatic 97, 3) := by decide +kernel
theorem dL_law_13 : decode cL_law 13 = .ok (.astore_n 2, 1) := by decide +kernel
theorem dL_law_14 : decode cL_law 14 = .ok (.aload_n 2, 1) := by decide +kernel
theorem dL_law_15 : decode cL_law 15 = .ok (.ifnonnull 5, 3) := by decide +kernel
theorem dL_law_20 : decode cL_law 20 = .ok (.aload_n 2, 1) := by decide +kernel
theorem dL_law_21 : decode cL_law 21 = .ok (.arraylength, 1) := by decide +kernel
theorem dL_law_22 : decode cL_law 22 = .ok (.istore_n 3, 1) := by decide +kernel
theorem dL_law_23 : decode cL_law 23 = .ok (.iload_n 3, 1) := by decide +kernel
theorem dL_law_24 : decode cL_law 24 = .ok (.bipush 24, 2) := by decide +kernel
theorem dL_law_26 : decode cL_law 26 = .ok (.if_icmp .le 16, 3) := by decide +kernel
theorem dL_law_29 : decode cL_law 29 = .ok (.iinc 3 (-1), 3) := by decide +kernel
theorem dL_law_32 : decode cL_law 32 = .ok (.aload_n 1, 1) := by decide +kernel
theorem dL_law_33 : decode cL_law 33 = .ok (.invokevirtual 101, 3) := by decide +kernel
theorem dL_law_36 : decode cL_law 36 = .ok (.iload_n 3, 1) := by decide +kernel
theorem dL_law_37 : decode cL_law 37 = .ok (.if_icmp .eq (-14), 3) := by decide +kernel
theorem dL_law_40 : decode cL_law 40 = .ok (.iconst 0, 1) := by decide +kernel
theorem dL_law_41 : decode cL_law 41 = .ok (.ireturn, 1) := by decide +kernel
theorem dL_law_42 : decode cL_law 42 = .ok (.iconst 3, 1) := by decide +kernel
theorem dL_law_43 : decode cL_law 43 = .ok (.aload_n 0, 1) := by decide +kernel
theorem dL_law_44 : decode cL_law 44 = .ok (.iconst 1, 1) := by decide +kernel
theorem dL_law_45 : decode cL_law 45 = .ok (.invokestatic 89, 3) := by decide +kernel
theorem dL_law_48 : decode cL_law 48 = .ok (.bipush 7, 2) := by decide +kernel
theorem dL_law_50 : decode cL_law 50 = .ok (.invokestatic 55, 3) := by decide +kernel
theorem dL_law_53 : decode cL_law 53 = .ok (.iadd, 1) := by decide +kernel
theorem dL_law_54 : decode cL_law 54 = .ok (.istore 4, 2) := by decide +kernel
theorem dL_law_56 : decode cL_law 56 = .ok (.aload_n 1, 1) := by decide +kernel
theorem dL_law_57 : decode cL_law 57 = .ok (.iload 4, 2) := by decide +kernel
theorem dL_law_59 : decode cL_law 59 = .ok (.invokevirtual 67, 3) := by decide +kernel
theorem dL_law_62 : decode cL_law 62 = .ok (.istore 5, 2) := by decide +kernel
theorem dL_law_64 : decode cL_law 64 = .ok (.aload_n 1, 1) := by decide +kernel
theorem dL_law_65 : decode cL_law 65 = .ok (.iload 4, 2) := by decide +kernel
theorem dL_law_67 : decode cL_law 67 = .ok (.iload 5, 2) := by decide +kernel
theorem dL_law_69 : decode cL_law 69 = .ok (.invokevirtual 70, 3) := by decide +kernel
theorem dL_law_72 : decode cL_law 72 = .ok (.istore 6, 2) := by decide +kernel
theorem dL_law_74 : decode cL_law 74 = .ok (.aload_n 1, 1) := by decide +kernel
theorem dL_law_75 : decode cL_law 75 = .ok (.iconst 1, 1) := by decide +kernel
theorem dL_law_76 : decode cL_law 76 = .ok (.invokevirtual 63, 3) := by decide +kernel
theorem dL_law_79 : decode cL_law 79 = .ok (.istore 7, 2) := by decide +kernel
theorem dL_law_81 : decode cL_law 81 = .ok (.iconst 0, 1) := by decide +kernel
theorem dL_law_82 : decode cL_law 82 = .ok (.istore 8, 2) := by decide +kernel
theorem dL_law_84 : decode cL_law 84 = .ok (.iload 8, 2) := by decide +kernel
theorem dL_law_86 : decode cL_law 86 = .ok (.bipush 16, 2) := by decide +kernel
theorem dL_law_88 : decode cL_law 88 = .ok (.if_icmp .ge 792, 3) := by decide +kernel
theorem dL_law_91 : decode cL_law 91 = .ok (.aload_n 0, 1) := by decide +kernel
theorem dL_law_92 : decode cL_law 92 = .ok (.iload 8, 2) := by decide +kernel
theorem dL_law_94 : decode cL_law 94 = .ok (.invokestatic 89, 3) := by decide +kernel
theorem dL_law_97 : decode cL_law 97 = .ok (.iload_n 3, 1) := by decide +kernel
theorem dL_law_98 : decode cL_law 98 = .ok (.invokestatic 55, 3) := by decide +kernel
theorem dL_law_101 : decode cL_law 101 = .ok (.istore 9, 2) := by decide +kernel
theorem dL_law_103 : decode cL_law 103 = .ok (.aload_n 0, 1) := by decide +kernel
theorem dL_law_104 : decode cL_law 104 = .ok (.iload 8, 2) := by decide +kernel
theorem dL_law_106 : decode cL_law 106 = .ok (.invokestatic 89, 3) := by decide +kernel
theorem dL_law_109 : decode cL_law 109 = .ok (.iconst 3, 1) := by decide +kernel
theorem dL_law_110 : decode cL_law 110 = .ok (.ishr, 1) := by decide +kernel
theorem dL_law_111 : decode cL_law 111 = .ok (.iload_n 3, 1) := by decide +kernel
theorem dL_law_112 : decode cL_law 112 = .ok (.invokestatic 55, 3) := by decide +kernel
theorem dL_law_115 : decode cL_law 115 = .ok (.istore 10, 2) := by decide +kernel
theorem dL_law_117 : decode cL_law 117 = .ok (.aload_n 1, 1) := by decide +kernel
theorem dL_law_118 : decode cL_law 118 = .ok (.iload 9, 2) := by decide +kernel
theorem dL_law_120 : decode cL_law 120 = .ok (.iconst 5, 1) := by decide +kernel
theorem dL_law_121 : decode cL_law 121 = .ok (.invokevirtual 52, 3) := by decide +kernel
theorem dL_law_124 : decode cL_law 124 = .ok (.bipush 24, 2) := by decide +kernel
theorem dL_law_126 : decode cL_law 126 = .ok (.if_icmp .gt 15, 3) := by decide +kernel
theorem dL_law_129 : decode cL_law 129 = .ok (.aload_n 1, 1) := by decide +kernel
theorem dL_law_130 : decode cL_law 130 = .ok (.iload 10, 2) := by decide +kernel
theorem dL_law_132 : decode cL_law 132 = .ok (.iconst 5, 1) := by decide +kernel
theorem dL_law_133 : decode cL_law 133 = .ok (.invokevirtual 52, 3) := by decide +kernel
theorem dL_law_136 : decode cL_law 136 = .ok (.bipush 24, 2) := by decide +kernel
theorem dL_law_138 : decode cL_law 138 = .ok (.if_icmp .le 5, 3) := by decide +kernel
theorem dL_law_141 : decode cL_law 141 = .ok (.iconst 0, 1) := by decide +kernel
theorem dL_law_142 : decode cL_law 142 = .ok (.ireturn, 1) := by decide +kernel
theorem dL_law_143 : decode cL_law 143 = .ok (.aload_n 1, 1) := by decide +kernel
theorem dL_law_144 : decode cL_law 144 = .ok (.iload 9, 2) := by decide +kernel
theorem dL_law_146 : decode cL_law 146 = .ok (.iconst 0, 1) := by decide +kernel
theorem dL_law_147 : decode cL_law 147 = .ok (.invokevirtual 44, 3) := by decide +kernel
theorem dL_law_150 : decode cL_law 150 = .ok (.istore 11, 2) := by decide +kernel
theorem dL_law_152 : decode cL_law 152 = .ok (.aload_n 1, 1) := by decide +kernel
theorem dL_law_153 : decode cL_law 153 = .ok (.iload 9, 2) := by decide +kernel
theorem dL_law_155 : decode cL_law 155 = .ok (.iconst 1, 1) := by decide +kernel
theorem dL_law_156 : decode cL_law 156 = .ok (.invokevirtual 44, 3) := by decide +kernel
theorem dL_law_159 : decode cL_law 159 = .ok (.istore 12, 2) := by decide +kernel
theorem dL_law_161 : decode cL_law 161 = .ok (.aload_n 1, 1) := by decide +kernel
theorem dL_law_162 : decode cL_law 162 = .ok (.iload 6, 2) := by decide +kernel
theorem dL_law_164 : decode cL_law 164 = .ok (.iload 9, 2) := by decide +kernel
theorem dL_law_166 : decode cL_law 166 = .ok (.invokevirtual 73, 3) := by decide +kernel
theorem dL_law_169 : decode cL_law 169 = .ok (.istore 13, 2) := by decide +kernel
theorem dL_law_171 : decode cL_law 171 = .ok (.aload_n 1, 1) := by decide +kernel
theorem dL_law_172 : decode cL_law 172 = .ok (.iload 4, 2) := by decide +kernel
theorem dL_law_174 : decode cL_law 174 = .ok (.iload 9, 2) := by decide +kernel
theorem dL_law_176 : decode cL_law 176 = .ok (.iload 5, 2) := by decide +kernel
theorem dL_law_178 : decode cL_law 178 = .ok (.invokevirtual 76, 3) := by decide +kernel
theorem dL_law_181 : decode cL_law 181 = .ok (.istore 14, 2) := by decide +kernel
theorem dL_law_183 : decode cL_law 183 = .ok (.aload_n 1, 1) := by decide +kernel
theorem dL_law_184 : decode cL_law 184 = .ok (.iload 7, 2) := by decide +kernel
theorem dL_law_186 : decode cL_law 186 = .ok (.iload 9, 2) := by decide +kernel
theorem dL_law_188 : decode cL_law 188 = .ok (.iload 9, 2) := by decide +kernel
theorem dL_law_190 : decode cL_law 190 = .ok (.invokevirtual 86, 3) := by decide +kernel
theorem dL_law_193 : decode cL_law 193 = .ok (.istore 15, 2) := by decide +kernel
theorem dL_law_195 : decode cL_law 195 = .ok (.aload_n 1, 1) := by decide +kernel
theorem dL_law_196 : decode cL_law 196 = .ok (.iload 4, 2) := by decide +kernel
theorem dL_law_198 : decode cL_law 198 = .ok (.iload 9, 2) := by decide +kernel
theorem dL_law_200 : decode cL_law 200 = .ok (.invokevirtual 70, 3) := by decide +kernel
theorem dL_law_203 : decode cL_law 203 = .ok (.istore 16, 2) := by decide +kernel
theorem dL_law_205 : decode cL_law 205 = .ok (.aload_n 1, 1) := by decide +kernel
theorem dL_law_206 : decode cL_law 206 = .ok (.iload 9, 2) := by decide +kernel
theorem dL_law_208 : decode cL_law 208 = .ok (.iload 10, 2) := by decide +kernel
theorem dL_law_210 : decode cL_law 210 = .ok (.invokevirtual 80, 3) := by decide +kernel
theorem dL_law_213 : decode cL_law 213 = .ok (.istore 17, 2) := by decide +kernel
theorem dL_law_215 : decode cL_law 215 = .ok (.aload_n 1, 1) := by decide +kernel
theorem dL_law_216 : decode cL_law 216 = .ok (.iload 17, 2) := by decide +kernel
theorem dL_law_218 : decode cL_law 218 = .ok (.iconst 0, 1) := by decide +kernel
theorem dL_law_219 : decode cL_law 219 = .ok (.invokevirtual 83, 3) := by decide +kernel
theorem dL_law_222 : decode cL_law 222 = .ok (.istore 18, 2) := by decide +kernel
theorem dL_law_224 : decode cL_law 224 = .ok (.aload_n 1, 1) := by decide +kernel
theorem dL_law_225 : decode cL_law 225 = .ok (.iload 17, 2) := by decide +kernel
theorem dL_law_227 : decode cL_law 227 = .ok (.iconst 1, 1) := by decide +kernel
theorem dL_law_228 : decode cL_law 228 = .ok (.invokevirtual 83, 3) := by decide +kernel
theorem dL_law_231 : decode cL_law 231 = .ok (.istore 19, 2) := by decide +kernel
theorem dL_law_233 : decode cL_law 233 = .ok (.iload 13, 2) := by decide +kernel
theorem dL_law_235 : decode cL_law 235 = .ok (.ifCond .lt 15, 3) := by decide +kernel
theorem dL_law_238 : decode cL_law 238 = .ok (.iload 19, 2) := by decide +kernel
theorem dL_law_240 : decode cL_law 240 = .ok (.aload_n 1, 1) := by decide +kernel
theorem dL_law_241 : decode cL_law 241 = .ok (.iconst 0, 1) := by decide +kernel
theorem dL_law_242 : decode cL_law 242 = .ok (.invokevirtual 105, 3) := by decide +kernel
theorem dL_law_245 : decode cL_law 245 = .ok (.iconst 1, 1) := by decide +kernel
theorem dL_law_246 : decode cL_law 246 = .ok (.isub, 1) := by decide +kernel
theorem dL_law_247 : decode cL_law 247 = .ok (.if_icmp .eq 5, 3) := by decide +kernel
theorem dL_law_250 : decode cL_law 250 = .ok (.iconst 0, 1) := by decide +kernel
theorem dL_law_251 : decode cL_law 251 = .ok (.ireturn, 1) := by decide +kernel
theorem dL_law_252 : decode cL_law 252 = .ok (.iconst 3, 1) := by decide +kernel
theorem dL_law_253 : decode cL_law 253 = .ok (.newarray .int, 2) := by decide +kernel
theorem dL_law_255 : decode cL_law 255 = .ok (.dup, 1) := by decide +kernel
theorem dL_law_256 : decode cL_law 256 = .ok (.iconst 0, 1) := by decide +kernel
theorem dL_law_257 : decode cL_law 257 = .ok (.iload 13, 2) := by decide +kernel
theorem dL_law_259 : decode cL_law 259 = .ok (.iastore, 1) := by decide +kernel
theorem dL_law_260 : decode cL_law 260 = .ok (.dup, 1) := by decide +kernel
theorem dL_law_261 : decode cL_law 261 = .ok (.iconst 1, 1) := by decide +kernel
theorem dL_law_262 : decode cL_law 262 = .ok (.iload 14, 2) := by decide +kernel
theorem dL_law_264 : decode cL_law 264 = .ok (.iastore, 1) := by decide +kernel
theorem dL_law_265 : decode cL_law 265 = .ok (.dup, 1) := by decide +kernel
theorem dL_law_266 : decode cL_law 266 = .ok (.iconst 2, 1) := by decide +kernel
theorem dL_law_267 : decode cL_law 267 = .ok (.iload 15, 2) := by decide +kernel
theorem dL_law_269 : decode cL_law 269 = .ok (.iastore, 1) := by decide +kernel
theorem dL_law_270 : decode cL_law 270 = .ok (.astore 20, 2) := by decide +kernel
theorem dL_law_272 : decode cL_law 272 = .ok (.aload 20, 2) := by decide +kernel
theorem dL_law_274 : decode cL_law 274 = .ok (.astore 21, 2) := by decide +kernel
theorem dL_law_276 : decode cL_law 276 = .ok (.aload 21, 2) := by decide +kernel
theorem dL_law_278 : decode cL_law 278 = .ok (.arraylength, 1) := by decide +kernel
theorem dL_law_279 : decode cL_law 279 = .ok (.istore 22, 2) := by decide +kernel
theorem dL_law_281 : decode cL_law 281 = .ok (.iconst 0, 1) := by decide +kernel
theorem dL_law_282 : decode cL_law 282 = .ok (.istore 23, 2) := by decide +kernel
theorem dL_law_284 : decode cL_law 284 = .ok (.iload 23, 2) := by decide +kernel
theorem dL_law_286 : decode cL_law 286 = .ok (.iload 22, 2) := by decide +kernel
theorem dL_law_288 : decode cL_law 288 = .ok (.if_icmp .ge 71, 3) := by decide +kernel
theorem dL_law_291 : decode cL_law 291 = .ok (.aload 21, 2) := by decide +kernel
theorem dL_law_293 : decode cL_law 293 = .ok (.iload 23, 2) := by decide +kernel
theorem dL_law_295 : decode cL_law 295 = .ok (.iaload, 1) := by decide +kernel
theorem dL_law_296 : decode cL_law 296 = .ok (.istore 24, 2) := by decide +kernel
theorem dL_law_298 : decode cL_law 298 = .ok (.aload_n 1, 1) := by decide +kernel
theorem dL_law_299 : decode cL_law 299 = .ok (.iload 24, 2) := by decide +kernel
theorem dL_law_301 : decode cL_law 301 = .ok (.iconst 0, 1) := by decide +kernel
theorem dL_law_302 : decode cL_law 302 = .ok (.invokevirtual 44, 3) := by decide +kernel
theorem dL_law_305 : decode cL_law 305 = .ok (.iload 11, 2) := by decide +kernel
theorem dL_law_307 : decode cL_law 307 = .ok (.if_icmp .ne 44, 3) := by decide +kernel
theorem dL_law_310 : decode cL_law 310 = .ok (.aload_n 1, 1) := by decide +kernel
theorem dL_law_311 : decode cL_law 311 = .ok (.iload 24, 2) := by decide +kernel
theorem dL_law_313 : decode cL_law 313 = .ok (.iconst 1, 1) := by decide +kernel
theorem dL_law_314 : decode cL_law 314 = .ok (.invokevirtual 44, 3) := by decide +kernel
theorem dL_law_317 : decode cL_law 317 = .ok (.iload 12, 2) := by decide +kernel
theorem dL_law_319 : decode cL_law 319 = .ok (.if_icmp .ne 32, 3) := by decide +kernel
theorem dL_law_322 : decode cL_law 322 = .ok (.iload 11, 2) := by decide +kernel
theorem dL_law_324 : decode cL_law 324 = .ok (.ifCond .ne 14, 3) := by decide +kernel
theorem dL_law_327 : decode cL_law 327 = .ok (.aload_n 1, 1) := by decide +kernel
theorem dL_law_328 : decode cL_law 328 = .ok (.iload 24, 2) := by decide +kernel
theorem dL_law_330 : decode cL_law 330 = .ok (.iload 9, 2) := by decide +kernel
theorem dL_law_332 : decode cL_law 332 = .ok (.invokevirtual 108, 3) := by decide +kernel
theorem dL_law_335 : decode cL_law 335 = .ok (.ifCond .eq 16, 3) := by decide +kernel
theorem dL_law_338 : decode cL_law 338 = .ok (.aload_n 1, 1) := by decide +kernel
theorem dL_law_339 : decode cL_law 339 = .ok (.iload 6, 2) := by decide +kernel
theorem dL_law_341 : decode cL_law 341 = .ok (.iload 24, 2) := by decide +kernel
theorem dL_law_343 : decode cL_law 343 = .ok (.invokevirtual 112, 3) := by decide +kernel
theorem dL_law_346 : decode cL_law 346 = .ok (.iload 11, 2) := by decide +kernel
theorem dL_law_348 : decode cL_law 348 = .ok (.if_icmp .eq 5, 3) := by decide +kernel
theorem dL_law_351 : decode cL_law 351 = .ok (.iconst 0, 1) := by decide +kernel
theorem dL_law_352 : decode cL_law 352 = .ok (.ireturn, 1) := by decide +kernel
theorem dL_law_353 : decode cL_law 353 = .ok (.iinc 23 1, 3) := by decide +kernel
theorem dL_law_356 : decode cL_law 356 = .ok (.goto (-72), 3) := by decide +kernel
theorem dL_law_359 : decode cL_law 359 = .ok (.aload_n 1, 1) := by decide +kernel
theorem dL_law_360 : decode cL_law 360 = .ok (.iload 9, 2) := by decide +kernel
theorem dL_law_362 : decode cL_law 362 = .ok (.iconst 2, 1) := by decide +kernel
theorem dL_law_363 : decode cL_law 363 = .ok (.invokevirtual 44, 3) := by decide +kernel
theorem dL_law_366 : decode cL_law 366 = .ok (.istore 21, 2) := by decide +kernel
theorem dL_law_368 : decode cL_law 368 = .ok (.aload_n 1, 1) := by decide +kernel
theorem dL_law_369 : decode cL_law 369 = .ok (.iload 9, 2) := by decide +kernel
theorem dL_law_371 : decode cL_law 371 = .ok (.iconst 3, 1) := by decide +kernel
theorem dL_law_372 : decode cL_law 372 = .ok (.invokevirtual 44, 3) := by decide +kernel
theorem dL_law_375 : decode cL_law 375 = .ok (.istore 22, 2) := by decide +kernel
theorem dL_law_377 : decode cL_law 377 = .ok (.iload 11, 2) := by decide +kernel
theorem dL_law_379 : decode cL_law 379 = .ok (.ifCond .eq 39, 3) := by decide +kernel
theorem dL_law_382 : decode cL_law 382 = .ok (.aload_n 1, 1) := by decide +kernel
theorem dL_law_383 : decode cL_law 383 = .ok (.iload 11, 2) := by decide +kernel
theorem dL_law_385 : decode cL_law 385 = .ok (.iload 12, 2) := by decide +kernel
theorem dL_law_387 : decode cL_law 387 = .ok (.iconst 4, 1) := by decide +kernel
theorem dL_law_388 : decode cL_law 388 = .ok (.newarray .int, 2) := by decide +kernel
theorem dL_law_390 : decode cL_law 390 = .ok (.dup, 1) := by decide +kernel
theorem dL_law_391 : decode cL_law 391 = .ok (.iconst 0, 1) := by decide +kernel
theorem dL_law_392 : decode cL_law 392 = .ok (.iload 16, 2) := by decide +kernel
theorem dL_law_394 : decode cL_law 394 = .ok (.iastore, 1) := by decide +kernel
theorem dL_law_395 : decode cL_law 395 = .ok (.dup, 1) := by decide +kernel
theorem dL_law_396 : decode cL_law 396 = .ok (.iconst 1, 1) := by decide +kernel
theorem dL_law_397 : decode cL_law 397 = .ok (.iload 17, 2) := by decide +kernel
theorem dL_law_399 : decode cL_law 399 = .ok (.iastore, 1) := by decide +kernel
theorem dL_law_400 : decode cL_law 400 = .ok (.dup, 1) := by decide +kernel
theorem dL_law_401 : decode cL_law 401 = .ok (.iconst 2, 1) := by decide +kernel
theorem dL_law_402 : decode cL_law 402 = .ok (.iload 18, 2) := by decide +kernel
theorem dL_law_404 : decode cL_law 404 = .ok (.iastore, 1) := by decide +kernel
theorem dL_law_405 : decode cL_law 405 = .ok (.dup, 1) := by decide +kernel
theorem dL_law_406 : decode cL_law 406 = .ok (.iconst 3, 1) := by decide +kernel
theorem dL_law_407 : decode cL_law 407 = .ok (.iload 19, 2) := by decide +kernel
theorem dL_law_409 : decode cL_law 409 = .ok (.iastore, 1) := by decide +kernel
theorem dL_law_410 : decode cL_law 410 = .ok (.invokestatic 115, 3) := by decide +kernel
theorem dL_law_413 : decode cL_law 413 = .ok (.ifCond .ne 435, 3) := by decide +kernel
theorem dL_law_416 : decode cL_law 416 = .ok (.iconst 0, 1) := by decide +kernel
theorem dL_law_417 : decode cL_law 417 = .ok (.ireturn, 1) := by decide +kernel
theorem dL_law_418 : decode cL_law 418 = .ok (.iload 21, 2) := by decide +kernel
theorem dL_law_420 : decode cL_law 420 = .ok (.iconst 2, 1) := by decide +kernel
theorem dL_law_421 : decode cL_law 421 = .ok (.iadd, 1) := by decide +kernel
theorem dL_law_422 : decode cL_law 422 = .ok (.bipush 60, 2) := by decide +kernel
theorem dL_law_424 : decode cL_law 424 = .ok (.if_icmp .le 29, 3) := by decide +kernel
theorem dL_law_427 : decode cL_law 427 = .ok (.aload_n 1, 1) := by decide +kernel
theorem dL_law_428 : decode cL_law 428 = .ok (.iload 16, 2) := by decide +kernel
theorem dL_law_430 : decode cL_law 430 = .ok (.iconst 0, 1) := by decide +kernel
theorem dL_law_431 : decode cL_law 431 = .ok (.invokevirtual 44, 3) := by decide +kernel
theorem dL_law_434 : decode cL_law 434 = .ok (.iconst 4, 1) := by decide +kernel
theorem dL_law_435 : decode cL_law 435 = .ok (.if_icmp .ne 69, 3) := by decide +kernel
theorem dL_law_438 : decode cL_law 438 = .ok (.aload_n 1, 1) := by decide +kernel
theorem dL_law_439 : decode cL_law 439 = .ok (.iload 16, 2) := by decide +kernel
theorem dL_law_441 : decode cL_law 441 = .ok (.iconst 1, 1) := by decide +kernel
theorem dL_law_442 : decode cL_law 442 = .ok (.invokevirtual 44, 3) := by decide +kernel
theorem dL_law_445 : decode cL_law 445 = .ok (.iload 16, 2) := by decide +kernel
theorem dL_law_447 : decode cL_law 447 = .ok (.if_icmp .eq 59, 3) := by decide +kernel
theorem dL_law_450 : decode cL_law 450 = .ok (.goto 54, 3) := by decide +kernel
theorem dL_law_453 : decode cL_law 453 = .ok (.aload_n 1, 1) := by decide +kernel
theorem dL_law_454 : decode cL_law 454 = .ok (.iload 16, 2) := by decide +kernel
theorem dL_law_456 : decode cL_law 456 = .ok (.iconst 2, 1) := by decide +kernel
theorem dL_law_457 : decode cL_law 457 = .ok (.invokevirtual 44, 3) := by decide +kernel
theorem dL_law_460 : decode cL_law 460 = .ok (.iload 21, 2) := by decide +kernel
theorem dL_law_462 : decode cL_law 462 = .ok (.iconst 2, 1) := by decide +kernel
theorem dL_law_463 : decode cL_law 463 = .ok (.iadd, 1) := by decide +kernel
theorem dL_law_464 : decode cL_law 464 = .ok (.if_icmp .ne 40, 3) := by decide +kernel
theorem dL_law_467 : decode cL_law 467 = .ok (.aload_n 1, 1) := by decide +kernel
theorem dL_law_468 : decode cL_law 468 = .ok (.iload 16, 2) := by decide +kernel
theorem dL_law_470 : decode cL_law 470 = .ok (.iconst 3, 1) := by decide +kernel
theorem dL_law_471 : decode cL_law 471 = .ok (.invokevirtual 44, 3) := by decide +kernel
theorem dL_law_474 : decode cL_law 474 = .ok (.iload 22, 2) := by decide +kernel
theorem dL_law_476 : decode cL_law 476 = .ok (.iconst 1, 1) := by decide +kernel
theorem dL_law_477 : decode cL_law 477 = .ok (.iadd, 1) := by decide +kernel
theorem dL_law_478 : decode cL_law 478 = .ok (.if_icmp .ne 26, 3) := by decide +kernel
theorem dL_law_481 : decode cL_law 481 = .ok (.aload_n 1, 1) := by decide +kernel
theorem dL_law_482 : decode cL_law 482 = .ok (.iload 16, 2) := by decide +kernel
theorem dL_law_484 : decode cL_law 484 = .ok (.iconst 0, 1) := by decide +kernel
theorem dL_law_485 : decode cL_law 485 = .ok (.invokevirtual 49, 3) := by decide +kernel
theorem dL_law_488 : decode cL_law 488 = .ok (.iconst 2, 1) := by decide +kernel
theorem dL_law_489 : decode cL_law 489 = .ok (.if_icmp .ne 15, 3) := by decide +kernel
theorem dL_law_492 : decode cL_law 492 = .ok (.aload_n 1, 1) := by decide +kernel
theorem dL_law_493 : decode cL_law 493 = .ok (.iload 16, 2) := by decide +kernel
theorem dL_law_495 : decode cL_law 495 = .ok (.iconst 1, 1) := by decide +kernel
theorem dL_law_496 : decode cL_law 496 = .ok (.invokevirtual 49, 3) := by decide +kernel
theorem dL_law_499 : decode cL_law 499 = .ok (.bipush 10, 2) := by decide +kernel
theorem dL_law_501 : decode cL_law 501 = .ok (.if_icmp .eq 5, 3) := by decide +kernel
theorem dL_law_504 : decode cL_law 504 = .ok (.iconst 0, 1) := by decide +kernel
theorem dL_law_505 : decode cL_law 505 = .ok (.ireturn, 1) := by decide +kernel
theorem dL_law_506 : decode cL_law 506 = .ok (.iconst 0, 1) := by decide +kernel
theorem dL_law_507 : decode cL_law 507 = .ok (.istore 23, 2) := by decide +kernel
theorem dL_law_509 : decode cL_law 509 = .ok (.iload 23, 2) := by decide +kernel
theorem dL_law_511 : decode cL_law 511 = .ok (.iload 21, 2) := by decide +kernel
theorem dL_law_513 : decode cL_law 513 = .ok (.if_icmp .ge 60, 3) := by decide +kernel
theorem dL_law_516 : decode cL_law 516 = .ok (.iload 21, 2) := by decide +kernel
theorem dL_law_518 : decode cL_law 518 = .ok (.iconst 2, 1) := by decide +kernel
theorem dL_law_519 : decode cL_law 519 = .ok (.iadd, 1) := by decide +kernel
theorem dL_law_520 : decode cL_law 520 = .ok (.bipush 60, 2) := by decide +kernel
theorem dL_law_522 : decode cL_law 522 = .ok (.if_icmp .gt 51, 3) := by decide +kernel
theorem dL_law_525 : decode cL_law 525 = .ok (.aload_n 1, 1) := by decide +kernel
theorem dL_law_526 : decode cL_law 526 = .ok (.iload 16, 2) := by decide +kernel
theorem dL_law_528 : decode cL_law 528 = .ok (.iload 23, 2) := by decide +kernel
theorem dL_law_530 : decode cL_law 530 = .ok (.iconst 2, 1) := by decide +kernel
theorem dL_law_531 : decode cL_law 531 = .ok (.iadd, 1) := by decide +kernel
theorem dL_law_532 : decode cL_law 532 = .ok (.invokevirtual 49, 3) := by decide +kernel
theorem dL_law_535 : decode cL_law 535 = .ok (.aload_n 1, 1) := by decide +kernel
theorem dL_law_536 : decode cL_law 536 = .ok (.iload 9, 2) := by decide +kernel
theorem dL_law_538 : decode cL_law 538 = .ok (.iload 23, 2) := by decide +kernel
theorem dL_law_540 : decode cL_law 540 = .ok (.invokevirtual 49, 3) := by decide +kernel
theorem dL_law_543 : decode cL_law 543 = .ok (.aload_n 1, 1) := by decide +kernel
theorem dL_law_544 : decode cL_law 544 = .ok (.iload 9, 2) := by decide +kernel
theorem dL_law_546 : decode cL_law 546 = .ok (.iload 23, 2) := by decide +kernel
theorem dL_law_548 : decode cL_law 548 = .ok (.invokevirtual 49, 3) := by decide +kernel
theorem dL_law_551 : decode cL_law 551 = .ok (.bipush 9, 2) := by decide +kernel
theorem dL_law_553 : decode cL_law 553 = .ok (.if_icmp .le 7, 3) := by decide +kernel
theorem dL_law_556 : decode cL_law 556 = .ok (.iconst 1, 1) := by decide +kernel
theorem dL_law_557 : decode cL_law 557 = .ok (.goto 4, 3) := by decide +kernel
theorem dL_law_560 : decode cL_law 560 = .ok (.iconst 0, 1) := by decide +kernel
theorem dL_law_561 : decode cL_law 561 = .ok (.iadd, 1) := by decide +kernel
theorem dL_law_562 : decode cL_law 562 = .ok (.if_icmp .eq 5, 3) := by decide +kernel
theorem dL_law_565 : decode cL_law 565 = .ok (.iconst 0, 1) := by decide +kernel
theorem dL_law_566 : decode cL_law 566 = .ok (.ireturn, 1) := by decide +kernel
theorem dL_law_567 : decode cL_law 567 = .ok (.iinc 23 1, 3) := by decide +kernel
theorem dL_law_570 : decode cL_law 570 = .ok (.goto (-61), 3) := by decide +kernel
theorem dL_law_573 : decode cL_law 573 = .ok (.aload_n 1, 1) := by decide +kernel
theorem dL_law_574 : decode cL_law 574 = .ok (.iload 10, 2) := by decide +kernel
theorem dL_law_576 : decode cL_law 576 = .ok (.iconst 2, 1) := by decide +kernel
theorem dL_law_577 : decode cL_law 577 = .ok (.invokevirtual 44, 3) := by decide +kernel
theorem dL_law_580 : decode cL_law 580 = .ok (.istore 23, 2) := by decide +kernel
theorem dL_law_582 : decode cL_law 582 = .ok (.aload_n 1, 1) := by decide +kernel
theorem dL_law_583 : decode cL_law 583 = .ok (.iload 10, 2) := by decide +kernel
theorem dL_law_585 : decode cL_law 585 = .ok (.iconst 0, 1) := by decide +kernel
theorem dL_law_586 : decode cL_law 586 = .ok (.invokevirtual 44, 3) := by decide +kernel
theorem dL_law_589 : decode cL_law 589 = .ok (.ifCond .eq 44, 3) := by decide +kernel
theorem dL_law_592 : decode cL_law 592 = .ok (.aload_n 1, 1) := by decide +kernel
theorem dL_law_593 : decode cL_law 593 = .ok (.aload_n 1, 1) := by decide +kernel
theorem dL_law_594 : decode cL_law 594 = .ok (.iload 10, 2) := by decide +kernel
theorem dL_law_596 : decode cL_law 596 = .ok (.iconst 0, 1) := by decide +kernel
theorem dL_law_597 : decode cL_law 597 = .ok (.invokevirtual 44, 3) := by decide +kernel
theorem dL_law_600 : decode cL_law 600 = .ok (.aload_n 1, 1) := by decide +kernel
theorem dL_law_601 : decode cL_law 601 = .ok (.iload 10, 2) := by decide +kernel
theorem dL_law_603 : decode cL_law 603 = .ok (.iconst 1, 1) := by decide +kernel
theorem dL_law_604 : decode cL_law 604 = .ok (.invokevirtual 44, 3) := by decide +kernel
theorem dL_law_607 : decode cL_law 607 = .ok (.iconst 3, 1) := by decide +kernel
theorem dL_law_608 : decode cL_law 608 = .ok (.newarray .int, 2) := by decide +kernel
theorem dL_law_610 : decode cL_law 610 = .ok (.dup, 1) := by decide +kernel
theorem dL_law_611 : decode cL_law 611 = .ok (.iconst 0, 1) := by decide +kernel
theorem dL_law_612 : decode cL_law 612 = .ok (.iload 17, 2) := by decide +kernel
theorem dL_law_614 : decode cL_law 614 = .ok (.iastore, 1) := by decide +kernel
theorem dL_law_615 : decode cL_law 615 = .ok (.dup, 1) := by decide +kernel
theorem dL_law_616 : decode cL_law 616 = .ok (.iconst 1, 1) := by decide +kernel
theorem dL_law_617 : decode cL_law 617 = .ok (.iload 18, 2) := by decide +kernel
theorem dL_law_619 : decode cL_law 619 = .ok (.iastore, 1) := by decide +kernel
theorem dL_law_620 : decode cL_law 620 = .ok (.dup, 1) := by decide +kernel
theorem dL_law_621 : decode cL_law 621 = .ok (.iconst 2, 1) := by decide +kernel
theorem dL_law_622 : decode cL_law 622 = .ok (.iload 19, 2) := by decide +kernel
theorem dL_law_624 : decode cL_law 624 = .ok (.iastore, 1) := by decide +kernel
theorem dL_law_625 : decode cL_law 625 = .ok (.invokestatic 115, 3) := by decide +kernel
theorem dL_law_628 : decode cL_law 628 = .ok (.ifCond .ne 220, 3) := by decide +kernel
theorem dL_law_631 : decode cL_law 631 = .ok (.iconst 0, 1) := by decide +kernel
theorem dL_law_632 : decode cL_law 632 = .ok (.ireturn, 1) := by decide +kernel
theorem dL_law_633 : decode cL_law 633 = .ok (.iconst 1, 1) := by decide +kernel
theorem dL_law_634 : decode cL_law 634 = .ok (.iload 21, 2) := by decide +kernel
theorem dL_law_636 : decode cL_law 636 = .ok (.iadd, 1) := by decide +kernel
theorem dL_law_637 : decode cL_law 637 = .ok (.iload 23, 2) := by decide +kernel
theorem dL_law_639 : decode cL_law 639 = .ok (.iadd, 1) := by decide +kernel
theorem dL_law_640 : decode cL_law 640 = .ok (.bipush 60, 2) := by decide +kernel
theorem dL_law_642 : decode cL_law 642 = .ok (.if_icmp .le 33, 3) := by decide +kernel
theorem dL_law_645 : decode cL_law 645 = .ok (.aload_n 1, 1) := by decide +kernel
theorem dL_law_646 : decode cL_law 646 = .ok (.iconst 4, 1) := by decide +kernel
theorem dL_law_647 : decode cL_law 647 = .ok (.iload 17, 2) := by decide +kernel
theorem dL_law_649 : decode cL_law 649 = .ok (.iconst 3, 1) := by decide +kernel
theorem dL_law_650 : decode cL_law 650 = .ok (.newarray .int, 2) := by decide +kernel
theorem dL_law_652 : decode cL_law 652 = .ok (.dup, 1) := by decide +kernel
theorem dL_law_653 : decode cL_law 653 = .ok (.iconst 0, 1) := by decide +kernel
theorem dL_law_654 : decode cL_law 654 = .ok (.iload 17, 2) := by decide +kernel
theorem dL_law_656 : decode cL_law 656 = .ok (.iastore, 1) := by decide +kernel
theorem dL_law_657 : decode cL_law 657 = .ok (.dup, 1) := by decide +kernel
theorem dL_law_658 : decode cL_law 658 = .ok (.iconst 1, 1) := by decide +kernel
theorem dL_law_659 : decode cL_law 659 = .ok (.iload 18, 2) := by decide +kernel
theorem dL_law_661 : decode cL_law 661 = .ok (.iastore, 1) := by decide +kernel
theorem dL_law_662 : decode cL_law 662 = .ok (.dup, 1) := by decide +kernel
theorem dL_law_663 : decode cL_law 663 = .ok (.iconst 2, 1) := by decide +kernel
theorem dL_law_664 : decode cL_law 664 = .ok (.iload 19, 2) := by decide +kernel
theorem dL_law_666 : decode cL_law 666 = .ok (.iastore, 1) := by decide +kernel
theorem dL_law_667 : decode cL_law 667 = .ok (.invokestatic 115, 3) := by decide +kernel
theorem dL_law_670 : decode cL_law 670 = .ok (.ifCond .ne 178, 3) := by decide +kernel
theorem dL_law_673 : decode cL_law 673 = .ok (.iconst 0, 1) := by decide +kernel
theorem dL_law_674 : decode cL_law 674 = .ok (.ireturn, 1) := by decide +kernel
theorem dL_law_675 : decode cL_law 675 = .ok (.aload_n 1, 1) := by decide +kernel
theorem dL_law_676 : decode cL_law 676 = .ok (.iload 17, 2) := by decide +kernel
theorem dL_law_678 : decode cL_law 678 = .ok (.iconst 2, 1) := by decide +kernel
theorem dL_law_679 : decode cL_law 679 = .ok (.invokevirtual 44, 3) := by decide +kernel
theorem dL_law_682 : decode cL_law 682 = .ok (.iconst 1, 1) := by decide +kernel
theorem dL_law_683 : decode cL_law 683 = .ok (.iload 21, 2) := by decide +kernel
theorem dL_law_685 : decode cL_law 685 = .ok (.iadd, 1) := by decide +kernel
theorem dL_law_686 : decode cL_law 686 = .ok (.iload 23, 2) := by decide +kernel
theorem dL_law_688 : decode cL_law 688 = .ok (.iadd, 1) := by decide +kernel
theorem dL_law_689 : decode cL_law 689 = .ok (.if_icmp .ne 56, 3) := by decide +kernel
theorem dL_law_692 : decode cL_law 692 = .ok (.aload_n 1, 1) := by decide +kernel
theorem dL_law_693 : decode cL_law 693 = .ok (.iload 17, 2) := by decide +kernel
theorem dL_law_695 : decode cL_law 695 = .ok (.iconst 3, 1) := by decide +kernel
theorem dL_law_696 : decode cL_law 696 = .ok (.invokevirtual 44, 3) := by decide +kernel
theorem dL_law_699 : decode cL_law 699 = .ok (.iload 22, 2) := by decide +kernel
theorem dL_law_701 : decode cL_law 701 = .ok (.aload_n 1, 1) := by decide +kernel
theorem dL_law_702 : decode cL_law 702 = .ok (.iload 10, 2) := by decide +kernel
theorem dL_law_704 : decode cL_law 704 = .ok (.iconst 3, 1) := by decide +kernel
theorem dL_law_705 : decode cL_law 705 = .ok (.invokevirtual 44, 3) := by decide +kernel
theorem dL_law_708 : decode cL_law 708 = .ok (.iadd, 1) := by decide +kernel
theorem dL_law_709 : decode cL_law 709 = .ok (.if_icmp .ne 36, 3) := by decide +kernel
theorem dL_law_712 : decode cL_law 712 = .ok (.aload_n 1, 1) := by decide +kernel
theorem dL_law_713 : decode cL_law 713 = .ok (.iload 17, 2) := by decide +kernel
theorem dL_law_715 : decode cL_law 715 = .ok (.iconst 0, 1) := by decide +kernel
theorem dL_law_716 : decode cL_law 716 = .ok (.invokevirtual 49, 3) := by decide +kernel
theorem dL_law_719 : decode cL_law 719 = .ok (.iconst 3, 1) := by decide +kernel
theorem dL_law_720 : decode cL_law 720 = .ok (.if_icmp .ne 25, 3) := by decide +kernel
theorem dL_law_723 : decode cL_law 723 = .ok (.aload_n 1, 1) := by decide +kernel
theorem dL_law_724 : decode cL_law 724 = .ok (.iload 18, 2) := by decide +kernel
theorem dL_law_726 : decode cL_law 726 = .ok (.iload 9, 2) := by decide +kernel
theorem dL_law_728 : decode cL_law 728 = .ok (.invokevirtual 108, 3) := by decide +kernel
theorem dL_law_731 : decode cL_law 731 = .ok (.ifCond .eq 14, 3) := by decide +kernel
theorem dL_law_734 : decode cL_law 734 = .ok (.aload_n 1, 1) := by decide +kernel
theorem dL_law_735 : decode cL_law 735 = .ok (.iload 19, 2) := by decide +kernel
theorem dL_law_737 : decode cL_law 737 = .ok (.iload 10, 2) := by decide +kernel
theorem dL_law_739 : decode cL_law 739 = .ok (.invokevirtual 108, 3) := by decide +kernel
theorem dL_law_742 : decode cL_law 742 = .ok (.ifCond .ne 5, 3) := by decide +kernel
theorem dL_law_745 : decode cL_law 745 = .ok (.iconst 0, 1) := by decide +kernel
theorem dL_law_746 : decode cL_law 746 = .ok (.ireturn, 1) := by decide +kernel
theorem dL_law_747 : decode cL_law 747 = .ok (.iconst 0, 1) := by decide +kernel
theorem dL_law_748 : decode cL_law 748 = .ok (.istore 24, 2) := by decide +kernel
theorem dL_law_750 : decode cL_law 750 = .ok (.iload 24, 2) := by decide +kernel
theorem dL_law_752 : decode cL_law 752 = .ok (.iload 21, 2) := by decide +kernel
theorem dL_law_754 : decode cL_law 754 = .ok (.if_icmp .ge 32, 3) := by decide +kernel
theorem dL_law_757 : decode cL_law 757 = .ok (.aload_n 1, 1) := by decide +kernel
theorem dL_law_758 : decode cL_law 758 = .ok (.iload 17, 2) := by decide +kernel
theorem dL_law_760 : decode cL_law 760 = .ok (.iconst 1, 1) := by decide +kernel
theorem dL_law_761 : decode cL_law 761 = .ok (.iload 24, 2) := by decide +kernel
theorem dL_law_763 : decode cL_law 763 = .ok (.iadd, 1) := by decide +kernel
theorem dL_law_764 : decode cL_law 764 = .ok (.invokevirtual 49, 3) := by decide +kernel
theorem dL_law_767 : decode cL_law 767 = .ok (.aload_n 1, 1) := by decide +kernel
theorem dL_law_768 : decode cL_law 768 = .ok (.iload 9, 2) := by decide +kernel
theorem dL_law_770 : decode cL_law 770 = .ok (.iload 24, 2) := by decide +kernel
theorem dL_law_772 : decode cL_law 772 = .ok (.invokevirtual 49, 3) := by decide +kernel
theorem dL_law_775 : decode cL_law 775 = .ok (.if_icmp .eq 5, 3) := by decide +kernel
theorem dL_law_778 : decode cL_law 778 = .ok (.iconst 0, 1) := by decide +kernel
theorem dL_law_779 : decode cL_law 779 = .ok (.ireturn, 1) := by decide +kernel
theorem dL_law_780 : decode cL_law 780 = .ok (.iinc 24 1, 3) := by decide +kernel
theorem dL_law_783 : decode cL_law 783 = .ok (.goto (-33), 3) := by decide +kernel
theorem dL_law_786 : decode cL_law 786 = .ok (.iconst 0, 1) := by decide +kernel
theorem dL_law_787 : decode cL_law 787 = .ok (.istore 24, 2) := by decide +kernel
theorem dL_law_789 : decode cL_law 789 = .ok (.iload 24, 2) := by decide +kernel
theorem dL_law_791 : decode cL_law 791 = .ok (.iload 23, 2) := by decide +kernel
theorem dL_law_793 : decode cL_law 793 = .ok (.if_icmp .ge 55, 3) := by decide +kernel
theorem dL_law_796 : decode cL_law 796 = .ok (.aload_n 1, 1) := by decide +kernel
theorem dL_law_797 : decode cL_law 797 = .ok (.iload 17, 2) := by decide +kernel
theorem dL_law_799 : decode cL_law 799 = .ok (.iconst 1, 1) := by decide +kernel
theorem dL_law_800 : decode cL_law 800 = .ok (.iload 21, 2) := by decide +kernel
theorem dL_law_802 : decode cL_law 802 = .ok (.iadd, 1) := by decide +kernel
theorem dL_law_803 : decode cL_law 803 = .ok (.iload 24, 2) := by decide +kernel
theorem dL_law_805 : decode cL_law 805 = .ok (.iadd, 1) := by decide +kernel
theorem dL_law_806 : decode cL_law 806 = .ok (.invokevirtual 49, 3) := by decide +kernel
theorem dL_law_809 : decode cL_law 809 = .ok (.aload_n 1, 1) := by decide +kernel
theorem dL_law_810 : decode cL_law 810 = .ok (.iload 10, 2) := by decide +kernel
theorem dL_law_812 : decode cL_law 812 = .ok (.iload 24, 2) := by decide +kernel
theorem dL_law_814 : decode cL_law 814 = .ok (.invokevirtual 49, 3) := by decide +kernel
theorem dL_law_817 : decode cL_law 817 = .ok (.aload_n 1, 1) := by decide +kernel
theorem dL_law_818 : decode cL_law 818 = .ok (.iload 10, 2) := by decide +kernel
theorem dL_law_820 : decode cL_law 820 = .ok (.iload 24, 2) := by decide +kernel
theorem dL_law_822 : decode cL_law 822 = .ok (.invokevirtual 49, 3) := by decide +kernel
theorem dL_law_825 : decode cL_law 825 = .ok (.bipush 9, 2) := by decide +kernel
theorem dL_law_827 : decode cL_law 827 = .ok (.if_icmp .le 8, 3) := by decide +kernel
theorem dL_law_830 : decode cL_law 830 = .ok (.iload 22, 2) := by decide +kernel
theorem dL_law_832 : decode cL_law 832 = .ok (.goto 4, 3) := by decide +kernel
theorem dL_law_835 : decode cL_law 835 = .ok (.iconst 0, 1) := by decide +kernel
theorem dL_law_836 : decode cL_law 836 = .ok (.iadd, 1) := by decide +kernel
theorem dL_law_837 : decode cL_law 837 = .ok (.if_icmp .eq 5, 3) := by decide +kernel
theorem dL_law_840 : decode cL_law 840 = .ok (.iconst 0, 1) := by decide +kernel
theorem dL_law_841 : decode cL_law 841 = .ok (.ireturn, 1) := by decide +kernel
theorem dL_law_842 : decode cL_law 842 = .ok (.iinc 24 1, 3) := by decide +kernel
theorem dL_law_845 : decode cL_law 845 = .ok (.goto (-56), 3) := by decide +kernel
theorem dL_law_848 : decode cL_law 848 = .ok (.iconst 0, 1) := by decide +kernel
theorem dL_law_849 : decode cL_law 849 = .ok (.istore 23, 2) := by decide +kernel
theorem dL_law_851 : decode cL_law 851 = .ok (.iload 23, 2) := by decide +kernel
theorem dL_law_853 : decode cL_law 853 = .ok (.bipush 7, 2) := by decide +kernel
theorem dL_law_855 : decode cL_law 855 = .ok (.if_icmp .ge 19, 3) := by decide +kernel
theorem dL_law_858 : decode cL_law 858 = .ok (.aload_n 1, 1) := by decide +kernel
theorem dL_law_859 : decode cL_law 859 = .ok (.invokevirtual 101, 3) := by decide +kernel
theorem dL_law_862 : decode cL_law 862 = .ok (.iload_n 3, 1) := by decide +kernel
theorem dL_law_863 : decode cL_law 863 = .ok (.if_icmp .ge 5, 3) := by decide +kernel
theorem dL_law_866 : decode cL_law 866 = .ok (.iconst 0, 1) := by decide +kernel
theorem dL_law_867 : decode cL_law 867 = .ok (.ireturn, 1) := by decide +kernel
theorem dL_law_868 : decode cL_law 868 = .ok (.iinc 23 1, 3) := by decide +kernel
theorem dL_law_871 : decode cL_law 871 = .ok (.goto (-20), 3) := by decide +kernel
theorem dL_law_874 : decode cL_law 874 = .ok (.iinc 8 1, 3) := by decide +kernel
theorem dL_law_877 : decode cL_law 877 = .ok (.goto (-793), 3) := by decide +kernel
theorem dL_law_880 : decode cL_law 880 = .ok (.aload_n 1, 1) := by decide +kernel
theorem dL_law_881 : decode cL_law 881 = .ok (.iconst 0, 1) := by decide +kernel
theorem dL_law_882 : decode cL_law 882 = .ok (.invokevirtual 105, 3) := by decide +kernel
theorem dL_law_885 : decode cL_law 885 = .ok (.iload_n 3, 1) := by decide +kernel
theorem dL_law_886 : decode cL_law 886 = .ok (.iconst 3, 1) := by decide +kernel
theorem dL_law_887 : decode cL_law 887 = .ok (.iadd, 1) := by decide +kernel
theorem dL_law_888 : decode cL_law 888 = .ok (.if_icmp .ne 7, 3) := by decide +kernel
theorem dL_law_891 : decode cL_law 891 = .ok (.iconst 1, 1) := by decide +kernel
theorem dL_law_892 : decode cL_law 892 = .ok (.goto 4, 3) := by decide +kernel
theorem dL_law_895 : decode cL_law 895 = .ok (.iconst 0, 1) := by decide +kernel
theorem dL_law_896 : decode cL_law 896 = .ok (.ireturn, 1) := by decide +kernel
section L20
variable {p : Program} {l : Launch} {e : Env} {R : Room} {s : State} {m : MethodId} {args : Array Value} {below : List Frame} {meth : Method} {c : Code} {D : va_G} {g : gT} {ad0 ln0 ad ln : Nat → Nat} {N0 : Nat} {A0 : gM} {b L : Nat} {xs : Nat → Int32}
def mL_law_b896 (xs : Nat → Int32) (L : Nat) (N : Nat) (ln : Nat → Nat) (k n : Nat) (A : gM) (s0 : Int32) : Option (Unit) :=
  if s0 = (1 : Int32) ∧ k ≤ 600130 ∧ n ≤ 7301080 then some () else none
def mL_law_b141 (xs : Nat → Int32) (L : Nat) (N : Nat) (ln : Nat → Nat) (k n : Nat) (A : gM) : Option (Unit) :=
  none
def mL_law_b250 (xs : Nat → Int32) (L : Nat) (N : Nat) (ln : Nat → Nat) (k n : Nat) (A : gM) : Option (Unit) :=
  none
def mL_law_b504 (xs : Nat → Int32) (L : Nat) (N : Nat) (ln : Nat → Nat) (k n : Nat) (A : gM) : Option (Unit) :=
  none
def mL_law_b745 (xs : Nat → Int32) (L : Nat) (N : Nat) (ln : Nat → Nat) (k n : Nat) (A : gM) : Option (Unit) :=
  none
def mL_law_b851 (xs : Nat → Int32) (L : Nat) (K84 : Nat → (Nat → Nat) → Nat → Nat → gM → Int32 → Int32 → Int32 → Int32 → Int32 → Int32 → Option (Unit)) (K851 : Nat → (Nat → Nat) → Nat → Nat → gM → Int32 → Int32 → Int32 → Int32 → Int32 → Int32 → Int32 → Option (Unit)) (N : Nat) (ln : Nat → Nat) (k n : Nat) (A : gM) (x3 : Int32) (x4 : Int32) (x5 : Int32) (x6 : Int32) (x7 : Int32) (x8 : Int32) (x23 : Int32) : Option (Unit) :=
  if 7 ≤ x23 then
  g_let (x8 + 1) fun v2 =>
  K84 N ln k n A x3 x4 x5 x6 x7 v2
  else
  if k + 1 ≤ 600130 ∧ n + 6 * 1 ≤ 7301080 then g_cx (mX5_undo A) fun A5 r6 =>
  if x3 ≤ r6 then
  g_let (x23 + 1) fun v8 =>
  K851 N ln (k + 1) (n + 6 * 1) A5 x3 x4 x5 x6 x7 x8 v8
  else
  none
  else none
def mL_law_L851 (xs : Nat → Int32) (L : Nat) (K84 : Nat → (Nat → Nat) → Nat → Nat → gM → Int32 → Int32 → Int32 → Int32 → Int32 → Int32 → Option (Unit)) : Nat → Nat → (Nat → Nat) → Nat → Nat → gM → Int32 → Int32 → Int32 → Int32 → Int32 → Int32 → Int32 → Option (Unit)
  | 0 => fun _ _ _ _ _ _ _ _ _ _ _ _ => none
  | f + 1 => fun N ln k n A x3 x4 x5 x6 x7 x8 x23 => mL_law_b851 xs L K84 (mL_law_L851 xs L K84 f) N ln k n A x3 x4 x5 x6 x7 x8 x23
def mL_law_b848 (xs : Nat → Int32) (L : Nat) (K84 : Nat → (Nat → Nat) → Nat → Nat → gM → Int32 → Int32 → Int32 → Int32 → Int32 → Int32 → Option (Unit)) (N : Nat) (ln : Nat → Nat) (k n : Nat) (A : gM) (x3 : Int32) (x4 : Int32) (x5 : Int32) (x6 : Int32) (x7 : Int32) (x8 : Int32) : Option (Unit) :=
  mL_law_L851 xs L K84 gF N ln k n A x3 x4 x5 x6 x7 x8 0
def mL_law_b836 (xs : Nat → Int32) (L : Nat) (K84 : Nat → (Nat → Nat) → Nat → Nat → gM → Int32 → Int32 → Int32 → Int32 → Int32 → Int32 → Option (Unit)) (K789 : Nat → (Nat → Nat) → Nat → Nat → gM → Int32 → Int32 → Int32 → Int32 → Int32 → Int32 → Int32 → Int32 → Int32 → Int32 → Int32 → Int32 → Option (Unit)) (N : Nat) (ln : Nat → Nat) (k n : Nat) (A : gM) (x3 : Int32) (x4 : Int32) (x5 : Int32) (x6 : Int32) (x7 : Int32) (x8 : Int32) (x10 : Int32) (x17 : Int32) (x21 : Int32) (x22 : Int32) (x23 : Int32) (x24 : Int32) (s0 : Int32) (s1 : Int32) (s2 : Int32) : Option (Unit) :=
  if s0 = (s1 + s2) then
  g_let (x24 + 1) fun v2 =>
  K789 N ln k n A x3 x4 x5 x6 x7 x8 x10 x17 x21 x22 x23 v2
  else
  none
def mL_law_b796 (xs : Nat → Int32) (L : Nat) (K84 : Nat → (Nat → Nat) → Nat → Nat → gM → Int32 → Int32 → Int32 → Int32 → Int32 → Int32 → Option (Unit)) (K789 : Nat → (Nat → Nat) → Nat → Nat → gM → Int32 → Int32 → Int32 → Int32 → Int32 → Int32 → Int32 → Int32 → Int32 → Int32 → Int32 → Int32 → Option (Unit)) (N : Nat) (ln : Nat → Nat) (k n : Nat) (A : gM) (x3 : Int32) (x4 : Int32) (x5 : Int32) (x6 : Int32) (x7 : Int32) (x8 : Int32) (x10 : Int32) (x17 : Int32) (x21 : Int32) (x22 : Int32) (x23 : Int32) (x24 : Int32) : Option (Unit) :=
  if k + 2 ≤ 600130 ∧ n + 6 * 2 ≤ 7301080 then g_cx (mX5_code A x17 ((1 + x21) + x24)) fun A3 r4 =>
  if (k + 2) + 2 ≤ 600130 ∧ (n + 6 * 2) + 6 * 2 ≤ 7301080 then g_cx (mX5_code A3 x10 x24) fun A7 r8 =>
  if ((k + 2) + 2) + 2 ≤ 600130 ∧ ((n + 6 * 2) + 6 * 2) + 6 * 2 ≤ 7301080 then g_cx (mX5_code A7 x10 x24) fun A11 r12 =>
  if r12 ≤ 9 then
  mL_law_b836 xs L K84 K789 N ln (((k + 2) + 2) + 2) (((n + 6 * 2) + 6 * 2) + 6 * 2) A11 x3 x4 x5 x6 x7 x8 x10 x17 x21 x22 x23 x24 r4 r8 0
  else
  mL_law_b836 xs L K84 K789 N ln (((k + 2) + 2) + 2) (((n + 6 * 2) + 6 * 2) + 6 * 2) A11 x3 x4 x5 x6 x7 x8 x10 x17 x21 x22 x23 x24 r4 r8 x22
  else none
  else none
  else none
def mL_law_b789 (xs : Nat → Int32) (L : Nat) (K84 : Nat → (Nat → Nat) → Nat → Nat → gM → Int32 → Int32 → Int32 → Int32 → Int32 → Int32 → Option (Unit)) (K789 : Nat → (Nat → Nat) → Nat → Nat → gM → Int32 → Int32 → Int32 → Int32 → Int32 → Int32 → Int32 → Int32 → Int32 → Int32 → Int32 → Int32 → Option (Unit)) (N : Nat) (ln : Nat → Nat) (k n : Nat) (A : gM) (x3 : Int32) (x4 : Int32) (x5 : Int32) (x6 : Int32) (x7 : Int32) (x8 : Int32) (x10 : Int32) (x17 : Int32) (x21 : Int32) (x22 : Int32) (x23 : Int32) (x24 : Int32) : Option (Unit) :=
  if x23 ≤ x24 then
  mL_law_b848 xs L K84 N ln k n A x3 x4 x5 x6 x7 x8
  else
  mL_law_b796 xs L K84 K789 N ln k n A x3 x4 x5 x6 x7 x8 x10 x17 x21 x22 x23 x24
def mL_law_L789 (xs : Nat → Int32) (L : Nat) (K84 : Nat → (Nat → Nat) → Nat → Nat → gM → Int32 → Int32 → Int32 → Int32 → Int32 → Int32 → Option (Unit)) : Nat → Nat → (Nat → Nat) → Nat → Nat → gM → Int32 → Int32 → Int32 → Int32 → Int32 → Int32 → Int32 → Int32 → Int32 → Int32 → Int32 → Int32 → Option (Unit)
  | 0 => fun _ _ _ _ _ _ _ _ _ _ _ _ _ _ _ _ _ => none
  | f + 1 => fun N ln k n A x3 x4 x5 x6 x7 x8 x10 x17 x21 x22 x23 x24 => mL_law_b789 xs L K84 (mL_law_L789 xs L K84 f) N ln k n A x3 x4 x5 x6 x7 x8 x10 x17 x21 x22 x23 x24
def mL_law_b757 (xs : Nat → Int32) (L : Nat) (K84 : Nat → (Nat → Nat) → Nat → Nat → gM → Int32 → Int32 → Int32 → Int32 → Int32 → Int32 → Option (Unit)) (K750 : Nat → (Nat → Nat) → Nat → Nat → gM → Int32 → Int32 → Int32 → Int32 → Int32 → Int32 → Int32 → Int32 → Int32 → Int32 → Int32 → Int32 → Int32 → Option (Unit)) (N : Nat) (ln : Nat → Nat) (k n : Nat) (A : gM) (x3 : Int32) (x4 : Int32) (x5 : Int32) (x6 : Int32) (x7 : Int32) (x8 : Int32) (x9 : Int32) (x10 : Int32) (x17 : Int32) (x21 : Int32) (x22 : Int32) (x23 : Int32) (x24 : Int32) : Option (Unit) :=
  if k + 2 ≤ 600130 ∧ n + 6 * 2 ≤ 7301080 then g_cx (mX5_code A x17 (1 + x24)) fun A3 r4 =>
  if (k + 2) + 2 ≤ 600130 ∧ (n + 6 * 2) + 6 * 2 ≤ 7301080 then g_cx (mX5_code A3 x9 x24) fun A7 r8 =>
  if r4 = r8 then
  g_let (x24 + 1) fun v10 =>
  K750 N ln ((k + 2) + 2) ((n + 6 * 2) + 6 * 2) A7 x3 x4 x5 x6 x7 x8 x9 x10 x17 x21 x22 x23 v10
  else
  none
  else none
  else none
def mL_law_b750 (xs : Nat → Int32) (L : Nat) (K84 : Nat → (Nat → Nat) → Nat → Nat → gM → Int32 → Int32 → Int32 → Int32 → Int32 → Int32 → Option (Unit)) (K750 : Nat → (Nat → Nat) → Nat → Nat → gM → Int32 → Int32 → Int32 → Int32 → Int32 → Int32 → Int32 → Int32 → Int32 → Int32 → Int32 → Int32 → Int32 → Option (Unit)) (N : Nat) (ln : Nat → Nat) (k n : Nat) (A : gM) (x3 : Int32) (x4 : Int32) (x5 : Int32) (x6 : Int32) (x7 : Int32) (x8 : Int32) (x9 : Int32) (x10 : Int32) (x17 : Int32) (x21 : Int32) (x22 : Int32) (x23 : Int32) (x24 : Int32) : Option (Unit) :=
  if x21 ≤ x24 then
  mL_law_L789 xs L K84 gF N ln k n A x3 x4 x5 x6 x7 x8 x10 x17 x21 x22 x23 0
  else
  mL_law_b757 xs L K84 K750 N ln k n A x3 x4 x5 x6 x7 x8 x9 x10 x17 x21 x22 x23 x24
def mL_law_L750 (xs : Nat → Int32) (L : Nat) (K84 : Nat → (Nat → Nat) → Nat → Nat → gM → Int32 → Int32 → Int32 → Int32 → Int32 → Int32 → Option (Unit)) : Nat → Nat → (Nat → Nat) → Nat → Nat → gM → Int32 → Int32 → Int32 → Int32 → Int32 → Int32 → Int32 → Int32 → Int32 → Int32 → Int32 → Int32 → Int32 → Option (Unit)
  | 0 => fun _ _ _ _ _ _ _ _ _ _ _ _ _ _ _ _ _ _ => none
  | f + 1 => fun N ln k n A x3 x4 x5 x6 x7 x8 x9 x10 x17 x21 x22 x23 x24 => mL_law_b750 xs L K84 (mL_law_L750 xs L K84 f) N ln k n A x3 x4 x5 x6 x7 x8 x9 x10 x17 x21 x22 x23 x24
def mL_law_b734 (xs : Nat → Int32) (L : Nat) (K84 : Nat → (Nat → Nat) → Nat → Nat → gM → Int32 → Int32 → Int32 → Int32 → Int32 → Int32 → Option (Unit)) (N : Nat) (ln : Nat → Nat) (k n : Nat) (A : gM) (x3 : Int32) (x4 : Int32) (x5 : Int32) (x6 : Int32) (x7 : Int32) (x8 : Int32) (x9 : Int32) (x10 : Int32) (x17 : Int32) (x19 : Int32) (x21 : Int32) (x22 : Int32) (x23 : Int32) : Option (Unit) :=
  if k + 2 ≤ 600130 ∧ n + 6 * 2 ≤ 7301080 then g_cx (mX5_same A x19 x10) fun A3 r4 =>
  if r4 = 0 then
  mL_law_b745 xs L N ln (k + 2) (n + 6 * 2) A3
  else
  mL_law_L750 xs L K84 gF N ln (k + 2) (n + 6 * 2) A3 x3 x4 x5 x6 x7 x8 x9 x10 x17 x21 x22 x23 0
  else none
def mL_law_b723 (xs : Nat → Int32) (L : Nat) (K84 : Nat → (Nat → Nat) → Nat → Nat → gM → Int32 → Int32 → Int32 → Int32 → Int32 → Int32 → Option (Unit)) (N : Nat) (ln : Nat → Nat) (k n : Nat) (A : gM) (x3 : Int32) (x4 : Int32) (x5 : Int32) (x6 : Int32) (x7 : Int32) (x8 : Int32) (x9 : Int32) (x10 : Int32) (x17 : Int32) (x18 : Int32) (x19 : Int32) (x21 : Int32) (x22 : Int32) (x23 : Int32) : Option (Unit) :=
  if k + 2 ≤ 600130 ∧ n + 6 * 2 ≤ 7301080 then g_cx (mX5_same A x18 x9) fun A3 r4 =>
  if r4 = 0 then
  mL_law_b745 xs L N ln (k + 2) (n + 6 * 2) A3
  else
  mL_law_b734 xs L K84 N ln (k + 2) (n + 6 * 2) A3 x3 x4 x5 x6 x7 x8 x9 x10 x17 x19 x21 x22 x23
  else none
def mL_law_b712 (xs : Nat → Int32) (L : Nat) (K84 : Nat → (Nat → Nat) → Nat → Nat → gM → Int32 → Int32 → Int32 → Int32 → Int32 → Int32 → Option (Unit)) (N : Nat) (ln : Nat → Nat) (k n : Nat) (A : gM) (x3 : Int32) (x4 : Int32) (x5 : Int32) (x6 : Int32) (x7 : Int32) (x8 : Int32) (x9 : Int32) (x10 : Int32) (x17 : Int32) (x18 : Int32) (x19 : Int32) (x21 : Int32) (x22 : Int32) (x23 : Int32) : Option (Unit) :=
  if k + 2 ≤ 600130 ∧ n + 6 * 2 ≤ 7301080 then g_cx (mX5_code A x17 0) fun A3 r4 =>
  if r4 = 3 then
  mL_law_b723 xs L K84 N ln (k + 2) (n + 6 * 2) A3 x3 x4 x5 x6 x7 x8 x9 x10 x17 x18 x19 x21 x22 x23
  else
  mL_law_b745 xs L N ln (k + 2) (n + 6 * 2) A3
  else none
def mL_law_b692 (xs : Nat → Int32) (L : Nat) (K84 : Nat → (Nat → Nat) → Nat → Nat → gM → Int32 → Int32 → Int32 → Int32 → Int32 → Int32 → Option (Unit)) (N : Nat) (ln : Nat → Nat) (k n : Nat) (A : gM) (x3 : Int32) (x4 : Int32) (x5 : Int32) (x6 : Int32) (x7 : Int32) (x8 : Int32) (x9 : Int32) (x10 : Int32) (x17 : Int32) (x18 : Int32) (x19 : Int32) (x21 : Int32) (x22 : Int32) (x23 : Int32) : Option (Unit) :=
  if k + 2 ≤ 600130 ∧ n + 6 * 2 ≤ 7301080 then g_cx (mX5_type A x17 3) fun A3 r4 =>
  if (k + 2) + 2 ≤ 600130 ∧ (n + 6 * 2) + 6 * 2 ≤ 7301080 then g_cx (mX5_type A3 x10 3) fun A7 r8 =>
  if r4 = (x22 + r8) then
  mL_law_b712 xs L K84 N ln ((k + 2) + 2) ((n + 6 * 2) + 6 * 2) A7 x3 x4 x5 x6 x7 x8 x9 x10 x17 x18 x19 x21 x22 x23
  else
  mL_law_b745 xs L N ln ((k + 2) + 2) ((n + 6 * 2) + 6 * 2) A7
  else none
  else none
def mL_law_b675 (xs : Nat → Int32) (L : Nat) (K84 : Nat → (Nat → Nat) → Nat → Nat → gM → Int32 → Int32 → Int32 → Int32 → Int32 → Int32 → Option (Unit)) (N : Nat) (ln : Nat → Nat) (k n : Nat) (A : gM) (x3 : Int32) (x4 : Int32) (x5 : Int32) (x6 : Int32) (x7 : Int32) (x8 : Int32) (x9 : Int32) (x10 : Int32) (x17 : Int32) (x18 : Int32) (x19 : Int32) (x21 : Int32) (x22 : Int32) (x23 : Int32) : Option (Unit) :=
  if k + 2 ≤ 600130 ∧ n + 6 * 2 ≤ 7301080 then g_cx (mX5_type A x17 2) fun A3 r4 =>
  if r4 = ((1 + x21) + x23) then
  mL_law_b692 xs L K84 N ln (k + 2) (n + 6 * 2) A3 x3 x4 x5 x6 x7 x8 x9 x10 x17 x18 x19 x21 x22 x23
  else
  mL_law_b745 xs L N ln (k + 2) (n + 6 * 2) A3
  else none
def mL_law_b633 (xs : Nat → Int32) (L : Nat) (K84 : Nat → (Nat → Nat) → Nat → Nat → gM → Int32 → Int32 → Int32 → Int32 → Int32 → Int32 → Option (Unit)) (N : Nat) (ln : Nat → Nat) (k n : Nat) (A : gM) (x3 : Int32) (x4 : Int32) (x5 : Int32) (x6 : Int32) (x7 : Int32) (x8 : Int32) (x9 : Int32) (x10 : Int32) (x17 : Int32) (x18 : Int32) (x19 : Int32) (x21 : Int32) (x22 : Int32) (x23 : Int32) : Option (Unit) :=
  if ((1 + x21) + x23) ≤ 60 then
  mL_law_b675 xs L K84 N ln k n A x3 x4 x5 x6 x7 x8 x9 x10 x17 x18 x19 x21 x22 x23
  else
  if ((3 : Int32).toNatClampNeg < 1000 ∧ ¬ (3 : Int32) < 0) ∧ (k + 1 ≤ 600130 ∧ n + (3 : Int32).toNatClampNeg ≤ 7301080) then g_let (N + 1) fun N5 => g_let (va_up ln N (3 : Int32).toNatClampNeg) fun ln3 => g_let (g_row A N (fun _ => 0)) fun A4 => if (N < N5 ∧ 183 ≤ N ∧ ln3 N < 1000) ∧ g_in 0 (ln3 N) = true then g_let (g_up A4 N (0 : Int32).toNatClampNeg x17) fun A7 =>
  if (N < N5 ∧ 183 ≤ N ∧ ln3 N < 1000) ∧ g_in 1 (ln3 N) = true then g_let (g_up A7 N (1 : Int32).toNatClampNeg x18) fun A9 =>
  if (N < N5 ∧ 183 ≤ N ∧ ln3 N < 1000) ∧ g_in 2 (ln3 N) = true then g_let (g_up A9 N (2 : Int32).toNatClampNeg x19) fun A11 =>
  if ((k + 1) + 40 ≤ 600130 ∧ (n + (3 : Int32).toNatClampNeg) + 240 ≤ 7301080) then g_cp (mL_isFault xs L N5 ln3 A11 4 x17 N) fun N16 ln17 A15 r14 => if N5 ≤ N16 then if r14 = 0 then
  none
  else
  mL_law_b848 xs L K84 N16 ln17 ((k + 1) + 40) ((n + (3 : Int32).toNatClampNeg) + 240) A15 x3 x4 x5 x6 x7 x8
  else none
  else none
  else none
  else none
  else none
  else none
def mL_law_b592 (xs : Nat → Int32) (L : Nat) (K84 : Nat → (Nat → Nat) → Nat → Nat → gM → Int32 → Int32 → Int32 → Int32 → Int32 → Int32 → Option (Unit)) (N : Nat) (ln : Nat → Nat) (k n : Nat) (A : gM) (x3 : Int32) (x4 : Int32) (x5 : Int32) (x6 : Int32) (x7 : Int32) (x8 : Int32) (x10 : Int32) (x17 : Int32) (x18 : Int32) (x19 : Int32) : Option (Unit) :=
  if k + 2 ≤ 600130 ∧ n + 6 * 2 ≤ 7301080 then g_cx (mX5_type A x10 0) fun A3 r4 =>
  if (k + 2) + 2 ≤ 600130 ∧ (n + 6 * 2) + 6 * 2 ≤ 7301080 then g_cx (mX5_type A3 x10 1) fun A7 r8 =>
  if ((3 : Int32).toNatClampNeg < 1000 ∧ ¬ (3 : Int32) < 0) ∧ (((k + 2) + 2) + 1 ≤ 600130 ∧ ((n + 6 * 2) + 6 * 2) + (3 : Int32).toNatClampNeg ≤ 7301080) then g_let (N + 1) fun N12 => g_let (va_up ln N (3 : Int32).toNatClampNeg) fun ln10 => g_let (g_row A7 N (fun _ => 0)) fun A11 => if (N < N12 ∧ 183 ≤ N ∧ ln10 N < 1000) ∧ g_in 0 (ln10 N) = true then g_let (g_up A11 N (0 : Int32).toNatClampNeg x17) fun A14 =>
  if (N < N12 ∧ 183 ≤ N ∧ ln10 N < 1000) ∧ g_in 1 (ln10 N) = true then g_let (g_up A14 N (1 : Int32).toNatClampNeg x18) fun A16 =>
  if (N < N12 ∧ 183 ≤ N ∧ ln10 N < 1000) ∧ g_in 2 (ln10 N) = true then g_let (g_up A16 N (2 : Int32).toNatClampNeg x19) fun A18 =>
  if ((((k + 2) + 2) + 1) + 40 ≤ 600130 ∧ (((n + 6 * 2) + 6 * 2) + (3 : Int32).toNatClampNeg) + 240 ≤ 7301080) then g_cp (mL_isFault xs L N12 ln10 A18 r4 r8 N) fun N23 ln24 A22 r21 => if N12 ≤ N23 then if r21 = 0 then
  none
  else
  mL_law_b848 xs L K84 N23 ln24 ((((k + 2) + 2) + 1) + 40) ((((n + 6 * 2) + 6 * 2) + (3 : Int32).toNatClampNeg) + 240) A22 x3 x4 x5 x6 x7 x8
  else none
  else none
  else none
  else none
  else none
  else none
  else none
  else none
def mL_law_b573 (xs : Nat → Int32) (L : Nat) (K84 : Nat → (Nat → Nat) → Nat → Nat → gM → Int32 → Int32 → Int32 → Int32 → Int32 → Int32 → Option (Unit)) (N : Nat) (ln : Nat → Nat) (k n : Nat) (A : gM) (x3 : Int32) (x4 : Int32) (x5 : Int32) (x6 : Int32) (x7 : Int32) (x8 : Int32) (x9 : Int32) (x10 : Int32) (x17 : Int32) (x18 : Int32) (x19 : Int32) (x21 : Int32) (x22 : Int32) : Option (Unit) :=
  if k + 2 ≤ 600130 ∧ n + 6 * 2 ≤ 7301080 then g_cx (mX5_type A x10 2) fun A3 r4 =>
  if (k + 2) + 2 ≤ 600130 ∧ (n + 6 * 2) + 6 * 2 ≤ 7301080 then g_cx (mX5_type A3 x10 0) fun A7 r8 =>
  if r8 = 0 then
  mL_law_b633 xs L K84 N ln ((k + 2) + 2) ((n + 6 * 2) + 6 * 2) A7 x3 x4 x5 x6 x7 x8 x9 x10 x17 x18 x19 x21 x22 r4
  else
  mL_law_b592 xs L K84 N ln ((k + 2) + 2) ((n + 6 * 2) + 6 * 2) A7 x3 x4 x5 x6 x7 x8 x10 x17 x18 x19
  else none
  else none
def mL_law_b561 (xs : Nat → Int32) (L : Nat) (K84 : Nat → (Nat → Nat) → Nat → Nat → gM → Int32 → Int32 → Int32 → Int32 → Int32 → Int32 → Option (Unit)) (K509 : Nat → (Nat → Nat) → Nat → Nat → gM → Int32 → Int32 → Int32 → Int32 → Int32 → Int32 → Int32 → Int32 → Int32 → Int32 → Int32 → Int32 → Int32 → Int32 → Int32 → Option (Unit)) (N : Nat) (ln : Nat → Nat) (k n : Nat) (A : gM) (x3 : Int32) (x4 : Int32) (x5 : Int32) (x6 : Int32) (x7 : Int32) (x8 : Int32) (x9 : Int32) (x10 : Int32) (x16 : Int32) (x17 : Int32) (x18 : Int32) (x19 : Int32) (x21 : Int32) (x22 : Int32) (x23 : Int32) (s0 : Int32) (s1 : Int32) (s2 : Int32) : Option (Unit) :=
  if s0 = (s1 + s2) then
  g_let (x23 + 1) fun v2 =>
  K509 N ln k n A x3 x4 x5 x6 x7 x8 x9 x10 x16 x17 x18 x19 x21 x22 v2
  else
  none
def mL_law_b525 (xs : Nat → Int32) (L : Nat) (K84 : Nat → (Nat → Nat) → Nat → Nat → gM → Int32 → Int32 → Int32 → Int32 → Int32 → Int32 → Option (Unit)) (K509 : Nat → (Nat → Nat) → Nat → Nat → gM → Int32 → Int32 → Int32 → Int32 → Int32 → Int32 → Int32 → Int32 → Int32 → Int32 → Int32 → Int32 → Int32 → Int32 → Int32 → Option (Unit)) (N : Nat) (ln : Nat → Nat) (k n : Nat) (A : gM) (x3 : Int32) (x4 : Int32) (x5 : Int32) (x6 : Int32) (x7 : Int32) (x8 : Int32) (x9 : Int32) (x10 : Int32) (x16 : Int32) (x17 : Int32) (x18 : Int32) (x19 : Int32) (x21 : Int32) (x22 : Int32) (x23 : Int32) : Option (Unit) :=
  if k + 2 ≤ 600130 ∧ n + 6 * 2 ≤ 7301080 then g_cx (mX5_code A x16 (x23 + 2)) fun A3 r4 =>
  if (k + 2) + 2 ≤ 600130 ∧ (n + 6 * 2) + 6 * 2 ≤ 7301080 then g_cx (mX5_code A3 x9 x23) fun A7 r8 =>
  if ((k + 2) + 2) + 2 ≤ 600130 ∧ ((n + 6 * 2) + 6 * 2) + 6 * 2 ≤ 7301080 then g_cx (mX5_code A7 x9 x23) fun A11 r12 =>
  if r12 ≤ 9 then
  mL_law_b561 xs L K84 K509 N ln (((k + 2) + 2) + 2) (((n + 6 * 2) + 6 * 2) + 6 * 2) A11 x3 x4 x5 x6 x7 x8 x9 x10 x16 x17 x18 x19 x21 x22 x23 r4 r8 0
  else
  mL_law_b561 xs L K84 K509 N ln (((k + 2) + 2) + 2) (((n + 6 * 2) + 6 * 2) + 6 * 2) A11 x3 x4 x5 x6 x7 x8 x9 x10 x16 x17 x18 x19 x21 x22 x23 r4 r8 1
  else none
  else none
  else none
def mL_law_b509 (xs : Nat → Int32) (L : Nat) (K84 : Nat → (Nat → Nat) → Nat → Nat → gM → Int32 → Int32 → Int32 → Int32 → Int32 → Int32 → Option (Unit)) (K509 : Nat → (Nat → Nat) → Nat → Nat → gM → Int32 → Int32 → Int32 → Int32 → Int32 → Int32 → Int32 → Int32 → Int32 → Int32 → Int32 → Int32 → Int32 → Int32 → Int32 → Option (Unit)) (N : Nat) (ln : Nat → Nat) (k n : Nat) (A : gM) (x3 : Int32) (x4 : Int32) (x5 : Int32) (x6 : Int32) (x7 : Int32) (x8 : Int32) (x9 : Int32) (x10 : Int32) (x16 : Int32) (x17 : Int32) (x18 : Int32) (x19 : Int32) (x21 : Int32) (x22 : Int32) (x23 : Int32) : Option (Unit) :=
  if x21 ≤ x23 then
  mL_law_b573 xs L K84 N ln k n A x3 x4 x5 x6 x7 x8 x9 x10 x17 x18 x19 x21 x22
  else
  if 60 < (x21 + 2) then
  mL_law_b573 xs L K84 N ln k n A x3 x4 x5 x6 x7 x8 x9 x10 x17 x18 x19 x21 x22
  else
  mL_law_b525 xs L K84 K509 N ln k n A x3 x4 x5 x6 x7 x8 x9 x10 x16 x17 x18 x19 x21 x22 x23
def mL_law_L509 (xs : Nat → Int32) (L : Nat) (K84 : Nat → (Nat → Nat) → Nat → Nat → gM → Int32 → Int32 → Int32 → Int32 → Int32 → Int32 → Option (Unit)) : Nat → Nat → (Nat → Nat) → Nat → Nat → gM → Int32 → Int32 → Int32 → Int32 → Int32 → Int32 → Int32 → Int32 → Int32 → Int32 → Int32 → Int32 → Int32 → Int32 → Int32 → Option (Unit)
  | 0 => fun _ _ _ _ _ _ _ _ _ _ _ _ _ _ _ _ _ _ _ _ => none
  | f + 1 => fun N ln k n A x3 x4 x5 x6 x7 x8 x9 x10 x16 x17 x18 x19 x21 x22 x23 => mL_law_b509 xs L K84 (mL_law_L509 xs L K84 f) N ln k n A x3 x4 x5 x6 x7 x8 x9 x10 x16 x17 x18 x19 x21 x22 x23
def mL_law_b506 (xs : Nat → Int32) (L : Nat) (K84 : Nat → (Nat → Nat) → Nat → Nat → gM → Int32 → Int32 → Int32 → Int32 → Int32 → Int32 → Option (Unit)) (N : Nat) (ln : Nat → Nat) (k n : Nat) (A : gM) (x3 : Int32) (x4 : Int32) (x5 : Int32) (x6 : Int32) (x7 : Int32) (x8 : Int32) (x9 : Int32) (x10 : Int32) (x16 : Int32) (x17 : Int32) (x18 : Int32) (x19 : Int32) (x21 : Int32) (x22 : Int32) : Option (Unit) :=
  mL_law_L509 xs L K84 gF N ln k n A x3 x4 x5 x6 x7 x8 x9 x10 x16 x17 x18 x19 x21 x22 0
def mL_law_b481 (xs : Nat → Int32) (L : Nat) (K84 : Nat → (Nat → Nat) → Nat → Nat → gM → Int32 → Int32 → Int32 → Int32 → Int32 → Int32 → Option (Unit)) (N : Nat) (ln : Nat → Nat) (k n : Nat) (A : gM) (x3 : Int32) (x4 : Int32) (x5 : Int32) (x6 : Int32) (x7 : Int32) (x8 : Int32) (x9 : Int32) (x10 : Int32) (x16 : Int32) (x17 : Int32) (x18 : Int32) (x19 : Int32) (x21 : Int32) (x22 : Int32) : Option (Unit) :=
  if k + 2 ≤ 600130 ∧ n + 6 * 2 ≤ 7301080 then g_cx (mX5_code A x16 0) fun A3 r4 =>
  if r4 = 2 then
  if (k + 2) + 2 ≤ 600130 ∧ (n + 6 * 2) + 6 * 2 ≤ 7301080 then g_cx (mX5_code A3 x16 1) fun A8 r9 =>
  if r9 = 10 then
  mL_law_b506 xs L K84 N ln ((k + 2) + 2) ((n + 6 * 2) + 6 * 2) A8 x3 x4 x5 x6 x7 x8 x9 x10 x16 x17 x18 x19 x21 x22
  else
  mL_law_b504 xs L N ln ((k + 2) + 2) ((n + 6 * 2) + 6 * 2) A8
  else none
  else
  mL_law_b504 xs L N ln (k + 2) (n + 6 * 2) A3
  else none
def mL_law_b467 (xs : Nat → Int32) (L : Nat) (K84 : Nat → (Nat → Nat) → Nat → Nat → gM → Int32 → Int32 → Int32 → Int32 → Int32 → Int32 → Option (Unit)) (N : Nat) (ln : Nat → Nat) (k n : Nat) (A : gM) (x3 : Int32) (x4 : Int32) (x5 : Int32) (x6 : Int32) (x7 : Int32) (x8 : Int32) (x9 : Int32) (x10 : Int32) (x16 : Int32) (x17 : Int32) (x18 : Int32) (x19 : Int32) (x21 : Int32) (x22 : Int32) : Option (Unit) :=
  if k + 2 ≤ 600130 ∧ n + 6 * 2 ≤ 7301080 then g_cx (mX5_type A x16 3) fun A3 r4 =>
  if r4 = (x22 + 1) then
  mL_law_b481 xs L K84 N ln (k + 2) (n + 6 * 2) A3 x3 x4 x5 x6 x7 x8 x9 x10 x16 x17 x18 x19 x21 x22
  else
  mL_law_b504 xs L N ln (k + 2) (n + 6 * 2) A3
  else none
def mL_law_b453 (xs : Nat → Int32) (L : Nat) (K84 : Nat → (Nat → Nat) → Nat → Nat → gM → Int32 → Int32 → Int32 → Int32 → Int32 → Int32 → Option (Unit)) (N : Nat) (ln : Nat → Nat) (k n : Nat) (A : gM) (x3 : Int32) (x4 : Int32) (x5 : Int32) (x6 : Int32) (x7 : Int32) (x8 : Int32) (x9 : Int32) (x10 : Int32) (x16 : Int32) (x17 : Int32) (x18 : Int32) (x19 : Int32) (x21 : Int32) (x22 : Int32) : Option (Unit) :=
  if k + 2 ≤ 600130 ∧ n + 6 * 2 ≤ 7301080 then g_cx (mX5_type A x16 2) fun A3 r4 =>
  if r4 = (x21 + 2) then
  mL_law_b467 xs L K84 N ln (k + 2) (n + 6 * 2) A3 x3 x4 x5 x6 x7 x8 x9 x10 x16 x17 x18 x19 x21 x22
  else
  mL_law_b504 xs L N ln (k + 2) (n + 6 * 2) A3
  else none
def mL_law_b427 (xs : Nat → Int32) (L : Nat) (K84 : Nat → (Nat → Nat) → Nat → Nat → gM → Int32 → Int32 → Int32 → Int32 → Int32 → Int32 → Option (Unit)) (N : Nat) (ln : Nat → Nat) (k n : Nat) (A : gM) (x3 : Int32) (x4 : Int32) (x5 : Int32) (x6 : Int32) (x7 : Int32) (x8 : Int32) (x9 : Int32) (x10 : Int32) (x16 : Int32) (x17 : Int32) (x18 : Int32) (x19 : Int32) (x21 : Int32) (x22 : Int32) : Option (Unit) :=
  if k + 2 ≤ 600130 ∧ n + 6 * 2 ≤ 7301080 then g_cx (mX5_type A x16 0) fun A3 r4 =>
  if r4 = 4 then
  if (k + 2) + 2 ≤ 600130 ∧ (n + 6 * 2) + 6 * 2 ≤ 7301080 then g_cx (mX5_type A3 x16 1) fun A8 r9 =>
  if r9 = x16 then
  mL_law_b506 xs L K84 N ln ((k + 2) + 2) ((n + 6 * 2) + 6 * 2) A8 x3 x4 x5 x6 x7 x8 x9 x10 x16 x17 x18 x19 x21 x22
  else
  mL_law_b504 xs L N ln ((k + 2) + 2) ((n + 6 * 2) + 6 * 2) A8
  else none
  else
  mL_law_b504 xs L N ln (k + 2) (n + 6 * 2) A3
  else none
def mL_law_b418 (xs : Nat → Int32) (L : Nat) (K84 : Nat → (Nat → Nat) → Nat → Nat → gM → Int32 → Int32 → Int32 → Int32 → Int32 → Int32 → Option (Unit)) (N : Nat) (ln : Nat → Nat) (k n : Nat) (A : gM) (x3 : Int32) (x4 : Int32) (x5 : Int32) (x6 : Int32) (x7 : Int32) (x8 : Int32) (x9 : Int32) (x10 : Int32) (x16 : Int32) (x17 : Int32) (x18 : Int32) (x19 : Int32) (x21 : Int32) (x22 : Int32) : Option (Unit) :=
  if (x21 + 2) ≤ 60 then
  mL_law_b453 xs L K84 N ln k n A x3 x4 x5 x6 x7 x8 x9 x10 x16 x17 x18 x19 x21 x22
  else
  mL_law_b427 xs L K84 N ln k n A x3 x4 x5 x6 x7 x8 x9 x10 x16 x17 x18 x19 x21 x22
def mL_law_b382 (xs : Nat → Int32) (L : Nat) (K84 : Nat → (Nat → Nat) → Nat → Nat → gM → Int32 → Int32 → Int32 → Int32 → Int32 → Int32 → Option (Unit)) (N : Nat) (ln : Nat → Nat) (k n : Nat) (A : gM) (x3 : Int32) (x4 : Int32) (x5 : Int32) (x6 : Int32) (x7 : Int32) (x8 : Int32) (x11 : Int32) (x12 : Int32) (x16 : Int32) (x17 : Int32) (x18 : Int32) (x19 : Int32) : Option (Unit) :=
  if ((4 : Int32).toNatClampNeg < 1000 ∧ ¬ (4 : Int32) < 0) ∧ (k + 1 ≤ 600130 ∧ n + (4 : Int32).toNatClampNeg ≤ 7301080) then g_let (N + 1) fun N4 => g_let (va_up ln N (4 : Int32).toNatClampNeg) fun ln2 => g_let (g_row A N (fun _ => 0)) fun A3 => if (N < N4 ∧ 183 ≤ N ∧ ln2 N < 1000) ∧ g_in 0 (ln2 N) = true then g_let (g_up A3 N (0 : Int32).toNatClampNeg x16) fun A6 =>
  if (N < N4 ∧ 183 ≤ N ∧ ln2 N < 1000) ∧ g_in 1 (ln2 N) = true then g_let (g_up A6 N (1 : Int32).toNatClampNeg x17) fun A8 =>
  if (N < N4 ∧ 183 ≤ N ∧ ln2 N < 1000) ∧ g_in 2 (ln2 N) = true then g_let (g_up A8 N (2 : Int32).toNatClampNeg x18) fun A10 =>
  if (N < N4 ∧ 183 ≤ N ∧ ln2 N < 1000) ∧ g_in 3 (ln2 N) = true then g_let (g_up A10 N (3 : Int32).toNatClampNeg x19) fun A12 =>
  if ((k + 1) + 40 ≤ 600130 ∧ (n + (4 : Int32).toNatClampNeg) + 240 ≤ 7301080) then g_cp (mL_isFault xs L N4 ln2 A12 x11 x12 N) fun N17 ln18 A16 r15 => if N4 ≤ N17 then if r15 = 0 then
  none
  else
  mL_law_b848 xs L K84 N17 ln18 ((k + 1) + 40) ((n + (4 : Int32).toNatClampNeg) + 240) A16 x3 x4 x5 x6 x7 x8
  else none
  else none
  else none
  else none
  else none
  else none
  else none
def mL_law_b359 (xs : Nat → Int32) (L : Nat) (K84 : Nat → (Nat → Nat) → Nat → Nat → gM → Int32 → Int32 → Int32 → Int32 → Int32 → Int32 → Option (Unit)) (N : Nat) (ln : Nat → Nat) (k n : Nat) (A : gM) (x3 : Int32) (x4 : Int32) (x5 : Int32) (x6 : Int32) (x7 : Int32) (x8 : Int32) (x9 : Int32) (x10 : Int32) (x11 : Int32) (x12 : Int32) (x16 : Int32) (x17 : Int32) (x18 : Int32) (x19 : Int32) : Option (Unit) :=
  if k + 2 ≤ 600130 ∧ n + 6 * 2 ≤ 7301080 then g_cx (mX5_type A x9 2) fun A3 r4 =>
  if (k + 2) + 2 ≤ 600130 ∧ (n + 6 * 2) + 6 * 2 ≤ 7301080 then g_cx (mX5_type A3 x9 3) fun A7 r8 =>
  if x11 = 0 then
  mL_law_b418 xs L K84 N ln ((k + 2) + 2) ((n + 6 * 2) + 6 * 2) A7 x3 x4 x5 x6 x7 x8 x9 x10 x16 x17 x18 x19 r4 r8
  else
  mL_law_b382 xs L K84 N ln ((k + 2) + 2) ((n + 6 * 2) + 6 * 2) A7 x3 x4 x5 x6 x7 x8 x11 x12 x16 x17 x18 x19
  else none
  else none
def mL_law_b351 (xs : Nat → Int32) (L : Nat) (N : Nat) (ln : Nat → Nat) (k n : Nat) (A : gM) : Option (Unit) :=
  none
def mL_law_b338 (xs : Nat → Int32) (L : Nat) (K84 : Nat → (Nat → Nat) → Nat → Nat → gM → Int32 → Int32 → Int32 → Int32 → Int32 → Int32 → Option (Unit)) (K284 : Nat → (Nat → Nat) → Nat → Nat → gM → Int32 → Int32 → Int32 → Int32 → Int32 → Int32 → Int32 → Int32 → Int32 → Int32 → Int32 → Int32 → Int32 → Int32 → Nat → Int32 → Int32 → Option (Unit)) (N : Nat) (ln : Nat → Nat) (k n : Nat) (A : gM) (x3 : Int32) (x4 : Int32) (x5 : Int32) (x6 : Int32) (x7 : Int32) (x8 : Int32) (x9 : Int32) (x10 : Int32) (x11 : Int32) (x12 : Int32) (x16 : Int32) (x17 : Int32) (x18 : Int32) (x19 : Int32) (x21 : Nat) (x22 : Int32) (x23 : Int32) (x24 : Int32) : Option (Unit) :=
  if k + 2 ≤ 600130 ∧ n + 6 * 2 ≤ 7301080 then g_cx (mX5_goes A x6 x24) fun A3 r4 =>
  if r4 = x11 then
  g_let (x23 + 1) fun v6 =>
  K284 N ln (k + 2) (n + 6 * 2) A3 x3 x4 x5 x6 x7 x8 x9 x10 x11 x12 x16 x17 x18 x19 x21 x22 v6
  else
  mL_law_b351 xs L N ln (k + 2) (n + 6 * 2) A3
  else none
def mL_law_b327 (xs : Nat → Int32) (L : Nat) (K84 : Nat → (Nat → Nat) → Nat → Nat → gM → Int32 → Int32 → Int32 → Int32 → Int32 → Int32 → Option (Unit)) (K284 : Nat → (Nat → Nat) → Nat → Nat → gM → Int32 → Int32 → Int32 → Int32 → Int32 → Int32 → Int32 → Int32 → Int32 → Int32 → Int32 → Int32 → Int32 → Int32 → Nat → Int32 → Int32 → Option (Unit)) (N : Nat) (ln : Nat → Nat) (k n : Nat) (A : gM) (x3 : Int32) (x4 : Int32) (x5 : Int32) (x6 : Int32) (x7 : Int32) (x8 : Int32) (x9 : Int32) (x10 : Int32) (x11 : Int32) (x12 : Int32) (x16 : Int32) (x17 : Int32) (x18 : Int32) (x19 : Int32) (x21 : Nat) (x22 : Int32) (x23 : Int32) (x24 : Int32) : Option (Unit) :=
  if k + 2 ≤ 600130 ∧ n + 6 * 2 ≤ 7301080 then g_cx (mX5_same A x24 x9) fun A3 r4 =>
  if r4 = 0 then
  mL_law_b351 xs L N ln (k + 2) (n + 6 * 2) A3
  else
  mL_law_b338 xs L K84 K284 N ln (k + 2) (n + 6 * 2) A3 x3 x4 x5 x6 x7 x8 x9 x10 x11 x12 x16 x17 x18 x19 x21 x22 x23 x24
  else none
def mL_law_b310 (xs : Nat → Int32) (L : Nat) (K84 : Nat → (Nat → Nat) → Nat → Nat → gM → Int32 → Int32 → Int32 → Int32 → Int32 → Int32 → Option (Unit)) (K284 : Nat → (Nat → Nat) → Nat → Nat → gM → Int32 → Int32 → Int32 → Int32 → Int32 → Int32 → Int32 → Int32 → Int32 → Int32 → Int32 → Int32 → Int32 → Int32 → Nat → Int32 → Int32 → Option (Unit)) (N : Nat) (ln : Nat → Nat) (k n : Nat) (A : gM) (x3 : Int32) (x4 : Int32) (x5 : Int32) (x6 : Int32) (x7 : Int32) (x8 : Int32) (x9 : Int32) (x10 : Int32) (x11 : Int32) (x12 : Int32) (x16 : Int32) (x17 : Int32) (x18 : Int32) (x19 : Int32) (x21 : Nat) (x22 : Int32) (x23 : Int32) (x24 : Int32) : Option (Unit) :=
  if k + 2 ≤ 600130 ∧ n + 6 * 2 ≤ 7301080 then g_cx (mX5_type A x24 1) fun A3 r4 =>
  if r4 = x12 then
  if x11 = 0 then
  mL_law_b327 xs L K84 K284 N ln (k + 2) (n + 6 * 2) A3 x3 x4 x5 x6 x7 x8 x9 x10 x11 x12 x16 x17 x18 x19 x21 x22 x23 x24
  else
  mL_law_b338 xs L K84 K284 N ln (k + 2) (n + 6 * 2) A3 x3 x4 x5 x6 x7 x8 x9 x10 x11 x12 x16 x17 x18 x19 x21 x22 x23 x24
  else
  mL_law_b351 xs L N ln (k + 2) (n + 6 * 2) A3
  else none
def mL_law_b298 (xs : Nat → Int32) (L : Nat) (K84 : Nat → (Nat → Nat) → Nat → Nat → gM → Int32 → Int32 → Int32 → Int32 → Int32 → Int32 → Option (Unit)) (K284 : Nat → (Nat → Nat) → Nat → Nat → gM → Int32 → Int32 → Int32 → Int32 → Int32 → Int32 → Int32 → Int32 → Int32 → Int32 → Int32 → Int32 → Int32 → Int32 → Nat → Int32 → Int32 → Option (Unit)) (N : Nat) (ln : Nat → Nat) (k n : Nat) (A : gM) (x3 : Int32) (x4 : Int32) (x5 : Int32) (x6 : Int32) (x7 : Int32) (x8 : Int32) (x9 : Int32) (x10 : Int32) (x11 : Int32) (x12 : Int32) (x16 : Int32) (x17 : Int32) (x18 : Int32) (x19 : Int32) (x21 : Nat) (x22 : Int32) (x23 : Int32) (x24 : Int32) : Option (Unit) :=
  if k + 2 ≤ 600130 ∧ n + 6 * 2 ≤ 7301080 then g_cx (mX5_type A x24 0) fun A3 r4 =>
  if r4 = x11 then
  mL_law_b310 xs L K84 K284 N ln (k + 2) (n + 6 * 2) A3 x3 x4 x5 x6 x7 x8 x9 x10 x11 x12 x16 x17 x18 x19 x21 x22 x23 x24
  else
  mL_law_b351 xs L N ln (k + 2) (n + 6 * 2) A3
  else none
def mL_law_b284 (xs : Nat → Int32) (L : Nat) (K84 : Nat → (Nat → Nat) → Nat → Nat → gM → Int32 → Int32 → Int32 → Int32 → Int32 → Int32 → Option (Unit)) (K284 : Nat → (Nat → Nat) → Nat → Nat → gM → Int32 → Int32 → Int32 → Int32 → Int32 → Int32 → Int32 → Int32 → Int32 → Int32 → Int32 → Int32 → Int32 → Int32 → Nat → Int32 → Int32 → Option (Unit)) (N : Nat) (ln : Nat → Nat) (k n : Nat) (A : gM) (x3 : Int32) (x4 : Int32) (x5 : Int32) (x6 : Int32) (x7 : Int32) (x8 : Int32) (x9 : Int32) (x10 : Int32) (x11 : Int32) (x12 : Int32) (x16 : Int32) (x17 : Int32) (x18 : Int32) (x19 : Int32) (x21 : Nat) (x22 : Int32) (x23 : Int32) : Option (Unit) :=
  if x22 ≤ x23 then
  mL_law_b359 xs L K84 N ln k n A x3 x4 x5 x6 x7 x8 x9 x10 x11 x12 x16 x17 x18 x19
  else
  if (x21 < N ∧ 183 ≤ x21 ∧ ln x21 < 1000) ∧ g_in x23 (ln x21) = true then
  g_let (A x21 x23.toNatClampNeg) fun v3 =>
  mL_law_b298 xs L K84 K284 N ln k n A x3 x4 x5 x6 x7 x8 x9 x10 x11 x12 x16 x17 x18 x19 x21 x22 x23 v3
  else none
def mL_law_L284 (xs : Nat → Int32) (L : Nat) (K84 : Nat → (Nat → Nat) → Nat → Nat → gM → Int32 → Int32 → Int32 → Int32 → Int32 → Int32 → Option (Unit)) : Nat → Nat → (Nat → Nat) → Nat → Nat → gM → Int32 → Int32 → Int32 → Int32 → Int32 → Int32 → Int32 → Int32 → Int32 → Int32 → Int32 → Int32 → Int32 → Int32 → Nat → Int32 → Int32 → Option (Unit)
  | 0 => fun _ _ _ _ _ _ _ _ _ _ _ _ _ _ _ _ _ _ _ _ _ _ => none
  | f + 1 => fun N ln k n A x3 x4 x5 x6 x7 x8 x9 x10 x11 x12 x16 x17 x18 x19 x21 x22 x23 => mL_law_b284 xs L K84 (mL_law_L284 xs L K84 f) N ln k n A x3 x4 x5 x6 x7 x8 x9 x10 x11 x12 x16 x17 x18 x19 x21 x22 x23
def mL_law_b272 (xs : Nat → Int32) (L : Nat) (K84 : Nat → (Nat → Nat) → Nat → Nat → gM → Int32 → Int32 → Int32 → Int32 → Int32 → Int32 → Option (Unit)) (N : Nat) (ln : Nat → Nat) (k n : Nat) (A : gM) (x3 : Int32) (x4 : Int32) (x5 : Int32) (x6 : Int32) (x7 : Int32) (x8 : Int32) (x9 : Int32) (x10 : Int32) (x11 : Int32) (x12 : Int32) (x16 : Int32) (x17 : Int32) (x18 : Int32) (x19 : Int32) (x20 : Nat) : Option (Unit) :=
  if x20 < N ∧ 183 ≤ x20 ∧ ln x20 < 1000 then
  g_let (Int32.ofNat (ln x20)) fun v2 =>
  mL_law_L284 xs L K84 gF N ln k n A x3 x4 x5 x6 x7 x8 x9 x10 x11 x12 x16 x17 x18 x19 x20 v2 0
  else none
def mL_law_b252 (xs : Nat → Int32) (L : Nat) (K84 : Nat → (Nat → Nat) → Nat → Nat → gM → Int32 → Int32 → Int32 → Int32 → Int32 → Int32 → Option (Unit)) (N : Nat) (ln : Nat → Nat) (k n : Nat) (A : gM) (x3 : Int32) (x4 : Int32) (x5 : Int32) (x6 : Int32) (x7 : Int32) (x8 : Int32) (x9 : Int32) (x10 : Int32) (x11 : Int32) (x12 : Int32) (x13 : Int32) (x14 : Int32) (x15 : Int32) (x16 : Int32) (x17 : Int32) (x18 : Int32) (x19 : Int32) : Option (Unit) :=
  if ((3 : Int32).toNatClampNeg < 1000 ∧ ¬ (3 : Int32) < 0) ∧ (k + 1 ≤ 600130 ∧ n + (3 : Int32).toNatClampNeg ≤ 7301080) then g_let (N + 1) fun N4 => g_let (va_up ln N (3 : Int32).toNatClampNeg) fun ln2 => g_let (g_row A N (fun _ => 0)) fun A3 => if (N < N4 ∧ 183 ≤ N ∧ ln2 N < 1000) ∧ g_in 0 (ln2 N) = true then g_let (g_up A3 N (0 : Int32).toNatClampNeg x13) fun A6 =>
  if (N < N4 ∧ 183 ≤ N ∧ ln2 N < 1000) ∧ g_in 1 (ln2 N) = true then g_let (g_up A6 N (1 : Int32).toNatClampNeg x14) fun A8 =>
  if (N < N4 ∧ 183 ≤ N ∧ ln2 N < 1000) ∧ g_in 2 (ln2 N) = true then g_let (g_up A8 N (2 : Int32).toNatClampNeg x15) fun A10 =>
  mL_law_b272 xs L K84 N4 ln2 (k + 1) (n + (3 : Int32).toNatClampNeg) A10 x3 x4 x5 x6 x7 x8 x9 x10 x11 x12 x16 x17 x18 x19 N
  else none
  else none
  else none
  else none
def mL_law_b233 (xs : Nat → Int32) (L : Nat) (K84 : Nat → (Nat → Nat) → Nat → Nat → gM → Int32 → Int32 → Int32 → Int32 → Int32 → Int32 → Option (Unit)) (N : Nat) (ln : Nat → Nat) (k n : Nat) (A : gM) (x3 : Int32) (x4 : Int32) (x5 : Int32) (x6 : Int32) (x7 : Int32) (x8 : Int32) (x9 : Int32) (x10 : Int32) (x11 : Int32) (x12 : Int32) (x13 : Int32) (x14 : Int32) (x15 : Int32) (x16 : Int32) (x17 : Int32) (x18 : Int32) (x19 : Int32) : Option (Unit) :=
  if x13 < 0 then
  mL_law_b250 xs L N ln k n A
  else
  if k + 1 ≤ 600130 ∧ n + 6 * 1 ≤ 7301080 then g_cx (mX5_count A 0) fun A4 r5 =>
  if x19 = (r5 - 1) then
  mL_law_b252 xs L K84 N ln (k + 1) (n + 6 * 1) A4 x3 x4 x5 x6 x7 x8 x9 x10 x11 x12 x13 x14 x15 x16 x17 x18 x19
  else
  mL_law_b250 xs L N ln (k + 1) (n + 6 * 1) A4
  else none
def mL_law_b224 (xs : Nat → Int32) (L : Nat) (K84 : Nat → (Nat → Nat) → Nat → Nat → gM → Int32 → Int32 → Int32 → Int32 → Int32 → Int32 → Option (Unit)) (N : Nat) (ln : Nat → Nat) (k n : Nat) (A : gM) (x3 : Int32) (x4 : Int32) (x5 : Int32) (x6 : Int32) (x7 : Int32) (x8 : Int32) (x9 : Int32) (x10 : Int32) (x11 : Int32) (x12 : Int32) (x13 : Int32) (x14 : Int32) (x15 : Int32) (x16 : Int32) (x17 : Int32) (x18 : Int32) : Option (Unit) :=
  if k + 3 ≤ 600130 ∧ n + 6 * 3 ≤ 7301080 then g_cx (mX5_end A x17 1) fun A3 r4 =>
  mL_law_b233 xs L K84 N ln (k + 3) (n + 6 * 3) A3 x3 x4 x5 x6 x7 x8 x9 x10 x11 x12 x13 x14 x15 x16 x17 x18 r4
  else none
def mL_law_b215 (xs : Nat → Int32) (L : Nat) (K84 : Nat → (Nat → Nat) → Nat → Nat → gM → Int32 → Int32 → Int32 → Int32 → Int32 → Int32 → Option (Unit)) (N : Nat) (ln : Nat → Nat) (k n : Nat) (A : gM) (x3 : Int32) (x4 : Int32) (x5 : Int32) (x6 : Int32) (x7 : Int32) (x8 : Int32) (x9 : Int32) (x10 : Int32) (x11 : Int32) (x12 : Int32) (x13 : Int32) (x14 : Int32) (x15 : Int32) (x16 : Int32) (x17 : Int32) : Option (Unit) :=
  if k + 3 ≤ 600130 ∧ n + 6 * 3 ≤ 7301080 then g_cx (mX5_end A x17 0) fun A3 r4 =>
  mL_law_b224 xs L K84 N ln (k + 3) (n + 6 * 3) A3 x3 x4 x5 x6 x7 x8 x9 x10 x11 x12 x13 x14 x15 x16 x17 r4
  else none
def mL_law_b205 (xs : Nat → Int32) (L : Nat) (K84 : Nat → (Nat → Nat) → Nat → Nat → gM → Int32 → Int32 → Int32 → Int32 → Int32 → Int32 → Option (Unit)) (N : Nat) (ln : Nat → Nat) (k n : Nat) (A : gM) (x3 : Int32) (x4 : Int32) (x5 : Int32) (x6 : Int32) (x7 : Int32) (x8 : Int32) (x9 : Int32) (x10 : Int32) (x11 : Int32) (x12 : Int32) (x13 : Int32) (x14 : Int32) (x15 : Int32) (x16 : Int32) : Option (Unit) :=
  if k + 3 ≤ 600130 ∧ n + 6 * 3 ≤ 7301080 then g_cx (mX5_axle A x9 x10) fun A3 r4 =>
  mL_law_b215 xs L K84 N ln (k + 3) (n + 6 * 3) A3 x3 x4 x5 x6 x7 x8 x9 x10 x11 x12 x13 x14 x15 x16 r4
  else none
def mL_law_b195 (xs : Nat → Int32) (L : Nat) (K84 : Nat → (Nat → Nat) → Nat → Nat → gM → Int32 → Int32 → Int32 → Int32 → Int32 → Int32 → Option (Unit)) (N : Nat) (ln : Nat → Nat) (k n : Nat) (A : gM) (x3 : Int32) (x4 : Int32) (x5 : Int32) (x6 : Int32) (x7 : Int32) (x8 : Int32) (x9 : Int32) (x10 : Int32) (x11 : Int32) (x12 : Int32) (x13 : Int32) (x14 : Int32) (x15 : Int32) : Option (Unit) :=
  if k + 3 ≤ 600130 ∧ n + 6 * 3 ≤ 7301080 then g_cx (mX5_wheel A x4 x9) fun A3 r4 =>
  mL_law_b205 xs L K84 N ln (k + 3) (n + 6 * 3) A3 x3 x4 x5 x6 x7 x8 x9 x10 x11 x12 x13 x14 x15 r4
  else none
def mL_law_b183 (xs : Nat → Int32) (L : Nat) (K84 : Nat → (Nat → Nat) → Nat → Nat → gM → Int32 → Int32 → Int32 → Int32 → Int32 → Int32 → Option (Unit)) (N : Nat) (ln : Nat → Nat) (k n : Nat) (A : gM) (x3 : Int32) (x4 : Int32) (x5 : Int32) (x6 : Int32) (x7 : Int32) (x8 : Int32) (x9 : Int32) (x10 : Int32) (x11 : Int32) (x12 : Int32) (x13 : Int32) (x14 : Int32) : Option (Unit) :=
  if k + 4 ≤ 600130 ∧ n + 6 * 4 ≤ 7301080 then g_cx (mX5_either A x7 x9 x9) fun A3 r4 =>
  mL_law_b195 xs L K84 N ln (k + 4) (n + 6 * 4) A3 x3 x4 x5 x6 x7 x8 x9 x10 x11 x12 x13 x14 r4
  else none
def mL_law_b171 (xs : Nat → Int32) (L : Nat) (K84 : Nat → (Nat → Nat) → Nat → Nat → gM → Int32 → Int32 → Int32 → Int32 → Int32 → Int32 → Option (Unit)) (N : Nat) (ln : Nat → Nat) (k n : Nat) (A : gM) (x3 : Int32) (x4 : Int32) (x5 : Int32) (x6 : Int32) (x7 : Int32) (x8 : Int32) (x9 : Int32) (x10 : Int32) (x11 : Int32) (x12 : Int32) (x13 : Int32) : Option (Unit) :=
  if k + 4 ≤ 600130 ∧ n + 6 * 4 ≤ 7301080 then g_cx (mX5_tell A x4 x9 x5) fun A3 r4 =>
  mL_law_b183 xs L K84 N ln (k + 4) (n + 6 * 4) A3 x3 x4 x5 x6 x7 x8 x9 x10 x11 x12 x13 r4
  else none
def mL_law_b161 (xs : Nat → Int32) (L : Nat) (K84 : Nat → (Nat → Nat) → Nat → Nat → gM → Int32 → Int32 → Int32 → Int32 → Int32 → Int32 → Option (Unit)) (N : Nat) (ln : Nat → Nat) (k n : Nat) (A : gM) (x3 : Int32) (x4 : Int32) (x5 : Int32) (x6 : Int32) (x7 : Int32) (x8 : Int32) (x9 : Int32) (x10 : Int32) (x11 : Int32) (x12 : Int32) : Option (Unit) :=
  if k + 3 ≤ 600130 ∧ n + 6 * 3 ≤ 7301080 then g_cx (mX5_turn A x6 x9) fun A3 r4 =>
  mL_law_b171 xs L K84 N ln (k + 3) (n + 6 * 3) A3 x3 x4 x5 x6 x7 x8 x9 x10 x11 x12 r4
  else none
def mL_law_b143 (xs : Nat → Int32) (L : Nat) (K84 : Nat → (Nat → Nat) → Nat → Nat → gM → Int32 → Int32 → Int32 → Int32 → Int32 → Int32 → Option (Unit)) (N : Nat) (ln : Nat → Nat) (k n : Nat) (A : gM) (x3 : Int32) (x4 : Int32) (x5 : Int32) (x6 : Int32) (x7 : Int32) (x8 : Int32) (x9 : Int32) (x10 : Int32) : Option (Unit) :=
  if k + 2 ≤ 600130 ∧ n + 6 * 2 ≤ 7301080 then g_cx (mX5_type A x9 0) fun A3 r4 =>
  if (k + 2) + 2 ≤ 600130 ∧ (n + 6 * 2) + 6 * 2 ≤ 7301080 then g_cx (mX5_type A3 x9 1) fun A7 r8 =>
  mL_law_b161 xs L K84 N ln ((k + 2) + 2) ((n + 6 * 2) + 6 * 2) A7 x3 x4 x5 x6 x7 x8 x9 x10 r4 r8
  else none
  else none
def mL_law_b129 (xs : Nat → Int32) (L : Nat) (K84 : Nat → (Nat → Nat) → Nat → Nat → gM → Int32 → Int32 → Int32 → Int32 → Int32 → Int32 → Option (Unit)) (N : Nat) (ln : Nat → Nat) (k n : Nat) (A : gM) (x3 : Int32) (x4 : Int32) (x5 : Int32) (x6 : Int32) (x7 : Int32) (x8 : Int32) (x9 : Int32) (x10 : Int32) : Option (Unit) :=
  if k + 2 ≤ 600130 ∧ n + 6 * 2 ≤ 7301080 then g_cx (mX5_part A x10 5) fun A3 r4 =>
  if r4 ≤ 24 then
  mL_law_b143 xs L K84 N ln (k + 2) (n + 6 * 2) A3 x3 x4 x5 x6 x7 x8 x9 x10
  else
  mL_law_b141 xs L N ln (k + 2) (n + 6 * 2) A3
  else none
def mL_law_b117 (xs : Nat → Int32) (L : Nat) (K84 : Nat → (Nat → Nat) → Nat → Nat → gM → Int32 → Int32 → Int32 → Int32 → Int32 → Int32 → Option (Unit)) (N : Nat) (ln : Nat → Nat) (k n : Nat) (A : gM) (x3 : Int32) (x4 : Int32) (x5 : Int32) (x6 : Int32) (x7 : Int32) (x8 : Int32) (x9 : Int32) (x10 : Int32) : Option (Unit) :=
  if k + 2 ≤ 600130 ∧ n + 6 * 2 ≤ 7301080 then g_cx (mX5_part A x9 5) fun A3 r4 =>
  if 24 < r4 then
  mL_law_b141 xs L N ln (k + 2) (n + 6 * 2) A3
  else
  mL_law_b129 xs L K84 N ln (k + 2) (n + 6 * 2) A3 x3 x4 x5 x6 x7 x8 x9 x10
  else none
def mL_law_b103 (xs : Nat → Int32) (L : Nat) (K84 : Nat → (Nat → Nat) → Nat → Nat → gM → Int32 → Int32 → Int32 → Int32 → Int32 → Int32 → Option (Unit)) (N : Nat) (ln : Nat → Nat) (k n : Nat) (A : gM) (x3 : Int32) (x4 : Int32) (x5 : Int32) (x6 : Int32) (x7 : Int32) (x8 : Int32) (x9 : Int32) : Option (Unit) :=
  if (k + 0 ≤ 600130 ∧ n + 0 ≤ 7301080) then g_cp (mL_cell xs L N ln A x8) fun N5 ln6 A4 r3 => if N ≤ N5 then if (k + 0) ≤ 600130 ∧ (n + 0) ≤ 7301080 then (mL_below A4 (r3 >>> (3 &&& 31)) x3).bind fun q7 =>
  mL_law_b117 xs L K84 N5 ln6 (k + 0) (n + 0) q7.1 x3 x4 x5 x6 x7 x8 x9 q7.2
  else none
  else none
  else none
def mL_law_b91 (xs : Nat → Int32) (L : Nat) (K84 : Nat → (Nat → Nat) → Nat → Nat → gM → Int32 → Int32 → Int32 → Int32 → Int32 → Int32 → Option (Unit)) (N : Nat) (ln : Nat → Nat) (k n : Nat) (A : gM) (x3 : Int32) (x4 : Int32) (x5 : Int32) (x6 : Int32) (x7 : Int32) (x8 : Int32) : Option (Unit) :=
  if (k + 0 ≤ 600130 ∧ n + 0 ≤ 7301080) then g_cp (mL_cell xs L N ln A x8) fun N5 ln6 A4 r3 => if N ≤ N5 then if (k + 0) ≤ 600130 ∧ (n + 0) ≤ 7301080 then (mL_below A4 r3 x3).bind fun q7 =>
  mL_law_b103 xs L K84 N5 ln6 (k + 0) (n + 0) q7.1 x3 x4 x5 x6 x7 x8 q7.2
  else none
  else none
  else none
def mL_law_b84 (xs : Nat → Int32) (L : Nat) (K84 : Nat → (Nat → Nat) → Nat → Nat → gM → Int32 → Int32 → Int32 → Int32 → Int32 → Int32 → Option (Unit)) (N : Nat) (ln : Nat → Nat) (k n : Nat) (A : gM) (x3 : Int32) (x4 : Int32) (x5 : Int32) (x6 : Int32) (x7 : Int32) (x8 : Int32) : Option (Unit) :=
  if 16 ≤ x8 then
  if k + 1 ≤ 600130 ∧ n + 6 * 1 ≤ 7301080 then g_cx (mX5_count A 0) fun A4 r5 =>
  if r5 = (x3 + 3) then
  mL_law_b896 xs L N ln (k + 1) (n + 6 * 1) A4 1
  else
  mL_law_b896 xs L N ln (k + 1) (n + 6 * 1) A4 0
  else none
  else
  mL_law_b91 xs L K84 N ln k n A x3 x4 x5 x6 x7 x8
def mL_law_L84 (xs : Nat → Int32) (L : Nat) : Nat → Nat → (Nat → Nat) → Nat → Nat → gM → Int32 → Int32 → Int32 → Int32 → Int32 → Int32 → Option (Unit)
  | 0 => fun _ _ _ _ _ _ _ _ _ _ _ => none
  | f + 1 => fun N ln k n A x3 x4 x5 x6 x7 x8 => mL_law_b84 xs L (mL_law_L84 xs L f) N ln k n A x3 x4 x5 x6 x7 x8
def mL_law_b74 (xs : Nat → Int32) (L : Nat) (N : Nat) (ln : Nat → Nat) (k n : Nat) (A : gM) (x3 : Int32) (x4 : Int32) (x5 : Int32) (x6 : Int32) : Option (Unit) :=
  if k + 2 ≤ 600130 ∧ n + 6 * 2 ≤ 7301080 then g_cx (mX5_plain A 1) fun A3 r4 =>
  mL_law_L84 xs L gF N ln (k + 2) (n + 6 * 2) A3 x3 x4 x5 x6 r4 0
  else none
def mL_law_b64 (xs : Nat → Int32) (L : Nat) (N : Nat) (ln : Nat → Nat) (k n : Nat) (A : gM) (x3 : Int32) (x4 : Int32) (x5 : Int32) : Option (Unit) :=
  if k + 3 ≤ 600130 ∧ n + 6 * 3 ≤ 7301080 then g_cx (mX5_wheel A x4 x5) fun A3 r4 =>
  mL_law_b74 xs L N ln (k + 3) (n + 6 * 3) A3 x3 x4 x5 r4
  else none
def mL_law_b56 (xs : Nat → Int32) (L : Nat) (N : Nat) (ln : Nat → Nat) (k n : Nat) (A : gM) (x3 : Int32) (x4 : Int32) : Option (Unit) :=
  if k + 2 ≤ 600130 ∧ n + 6 * 2 ≤ 7301080 then g_cx (mX5_name A x4) fun A3 r4 =>
  mL_law_b64 xs L N ln (k + 2) (n + 6 * 2) A3 x3 x4 r4
  else none
def mL_law_b23 (xs : Nat → Int32) (L : Nat) (K23 : Nat → (Nat → Nat) → Nat → Nat → gM → Int32 → Option (Unit)) (N : Nat) (ln : Nat → Nat) (k n : Nat) (A : gM) (x3 : Int32) : Option (Unit) :=
  if x3 ≤ 24 then
  if (k + 0 ≤ 600130 ∧ n + 0 ≤ 7301080) then g_cp (mL_cell xs L N ln A 1) fun N6 ln7 A5 r4 => if N ≤ N6 then if (k + 0) ≤ 600130 ∧ (n + 0) ≤ 7301080 then (mL_below A5 r4 7).bind fun q8 =>
  g_let (3 + q8.2) fun v10 =>
  mL_law_b56 xs L N6 ln7 (k + 0) (n + 0) q8.1 x3 v10
  else none
  else none
  else none
  else
  g_let (x3 + (-1)) fun v11 =>
  if k + 1 ≤ 600130 ∧ n + 6 * 1 ≤ 7301080 then g_cx (mX5_undo A) fun A14 r15 =>
  if r15 = v11 then
  K23 N ln (k + 1) (n + 6 * 1) A14 v11
  else
  none
  else none
def mL_law_L23 (xs : Nat → Int32) (L : Nat) : Nat → Nat → (Nat → Nat) → Nat → Nat → gM → Int32 → Option (Unit)
  | 0 => fun _ _ _ _ _ _ => none
  | f + 1 => fun N ln k n A x3 => mL_law_b23 xs L (mL_law_L23 xs L f) N ln k n A x3
def mL_law_b8 (xs : Nat → Int32) (L : Nat) (N : Nat) (ln : Nat → Nat) (k n : Nat) (A : gM) : Option (Unit) :=
  if (k + 800 ≤ 600130 ∧ n + 12000 ≤ 7301080) then g_cp (mL_build xs L N ln A) fun N5 ln6 A4 r3 => if N ≤ N5 then if r3 < N5 ∧ 183 ≤ r3 ∧ 1000 ≤ ln6 r3 then
  g_let (Int32.ofNat (ln6 r3 - 1000)) fun v8 =>
  mL_law_L23 xs L gF N5 ln6 (k + 800) (n + 12000) A4 v8
  else none
  else none
  else none
set_option maxHeartbeats 4000000 in
set_option maxRecDepth 20000 in
theorem wL_law_b896 (C : gC p room_1 s m #[Value.ref b] meth c cL_law RL 25 D g (fun q : Nat => s.heap.size ≤ q) 2048) (CX : gCP l s (fun q : Nat => s.heap.size ≤ q) b L xs) (hr : meth.sig.returnType = ret)  {N : Nat} {ad ln : Nat → Nat} (hN : 183 ≤ N) {k n : Nat} {A : gM} {s0 : Int32} (h : mL_law_b896 xs L N ln k n A s0 = some ()) : gJ p l e room_1 s m #[Value.ref b] below meth c (lw_Z below #[Value.ref b] s) 25 D g (fun q : Nat => s.heap.size ≤ q) N ad ln A [] k n 896 [gi s0] := by
  unfold mL_law_b896 at h
  obtain ⟨hg1, h⟩ := g_gd h
  rw [hg1.1]
  exact g_retLaw C CX hr hg1.2 dL_law_896

set_option maxHeartbeats 4000000 in
set_option maxRecDepth 20000 in
theorem wL_law_b141 (C : gC p room_1 s m #[Value.ref b] meth c cL_law RL 25 D g (fun q : Nat => s.heap.size ≤ q) 2048) (CX : gCP l s (fun q : Nat => s.heap.size ≤ q) b L xs) (hr : meth.sig.returnType = ret)  {N : Nat} {ad ln : Nat → Nat} (hN : 183 ≤ N) {k n : Nat} {A : gM} (h : mL_law_b141 xs L N ln k n A = some ()) : gJ p l e room_1 s m #[Value.ref b] below meth c (lw_Z below #[Value.ref b] s) 25 D g (fun q : Nat => s.heap.size ≤ q) N ad ln A [] k n 141 [] := by
  unfold mL_law_b141 at h
  refine g_iconst (v := 0) C dL_law_141 (by decide) ?_
  cases h

set_option maxHeartbeats 4000000 in
set_option maxRecDepth 20000 in
theorem wL_law_b250 (C : gC p room_1 s m #[Value.ref b] meth c cL_law RL 25 D g (fun q : Nat => s.heap.size ≤ q) 2048) (CX : gCP l s (fun q : Nat => s.heap.size ≤ q) b L xs) (hr : meth.sig.returnType = ret)  {N : Nat} {ad ln : Nat → Nat} (hN : 183 ≤ N) {k n : Nat} {A : gM} (h : mL_law_b250 xs L N ln k n A = some ()) : gJ p l e room_1 s m #[Value.ref b] below meth c (lw_Z below #[Value.ref b] s) 25 D g (fun q : Nat => s.heap.size ≤ q) N ad ln A [] k n 250 [] := by
  unfold mL_law_b250 at h
  refine g_iconst (v := 0) C dL_law_250 (by decide) ?_
  cases h

set_option maxHeartbeats 4000000 in
set_option maxRecDepth 20000 in
theorem wL_law_b504 (C : gC p room_1 s m #[Value.ref b] meth c cL_law RL 25 D g (fun q : Nat => s.heap.size ≤ q) 2048) (CX : gCP l s (fun q : Nat => s.heap.size ≤ q) b L xs) (hr : meth.sig.returnType = ret)  {N : Nat} {ad ln : Nat → Nat} (hN : 183 ≤ N) {k n : Nat} {A : gM} (h : mL_law_b504 xs L N ln k n A = some ()) : gJ p l e room_1 s m #[Value.ref b] below meth c (lw_Z below #[Value.ref b] s) 25 D g (fun q : Nat => s.heap.size ≤ q) N ad ln A [] k n 504 [] := by
  unfold mL_law_b504 at h
  refine g_iconst (v := 0) C dL_law_504 (by decide) ?_
  cases h

set_option maxHeartbeats 4000000 in
set_option maxRecDepth 20000 in
theorem wL_law_b745 (C : gC p room_1 s m #[Value.ref b] meth c cL_law RL 25 D g (fun q : Nat => s.heap.size ≤ q) 2048) (CX : gCP l s (fun q : Nat => s.heap.size ≤ q) b L xs) (hr : meth.sig.returnType = ret)  {N : Nat} {ad ln : Nat → Nat} (hN : 183 ≤ N) {k n : Nat} {A : gM} (h : mL_law_b745 xs L N ln k n A = some ()) : gJ p l e room_1 s m #[Value.ref b] below meth c (lw_Z below #[Value.ref b] s) 25 D g (fun q : Nat => s.heap.size ≤ q) N ad ln A [] k n 745 [] := by
  unfold mL_law_b745 at h
  refine g_iconst (v := 0) C dL_law_745 (by decide) ?_
  cases h

set_option maxHeartbeats 4000000 in
set_option maxRecDepth 20000 in
theorem wL_law_b851 (C : gC p room_1 s m #[Value.ref b] meth c cL_law RL 25 D g (fun q : Nat => s.heap.size ≤ q) 2048) (CX : gCP l s (fun q : Nat => s.heap.size ≤ q) b L xs) (hr : meth.sig.returnType = ret) {K84 : Nat → (Nat → Nat) → Nat → Nat → gM → Int32 → Int32 → Int32 → Int32 → Int32 → Int32 → Option (Unit)} {K851 : Nat → (Nat → Nat) → Nat → Nat → gM → Int32 → Int32 → Int32 → Int32 → Int32 → Int32 → Int32 → Option (Unit)} (hK84 : ∀ {N : Nat} {ad ln : Nat → Nat} (hN : 183 ≤ N) {k n : Nat} {A : gM} {x3 : Int32} {x4 : Int32} {x5 : Int32} {x6 : Int32} {x7 : Int32} {x8 : Int32}, K84 N ln k n A x3 x4 x5 x6 x7 x8 = some () → gJ p l e room_1 s m #[Value.ref b] below meth c (lw_Z below #[Value.ref b] s) 25 D g (fun q : Nat => s.heap.size ≤ q) N ad ln A [(0, .inr (.ref b)), (1, gr 0), (3, gi x3), (4, gi x4), (5, gi x5), (6, gi x6), (7, gi x7), (8, gi x8)] k n 84 []) (hK851 : ∀ {N : Nat} {ad ln : Nat → Nat} (hN : 183 ≤ N) {k n : Nat} {A : gM} {x3 : Int32} {x4 : Int32} {x5 : Int32} {x6 : Int32} {x7 : Int32} {x8 : Int32} {x23 : Int32}, K851 N ln k n A x3 x4 x5 x6 x7 x8 x23 = some () → gJ p l e room_1 s m #[Value.ref b] below meth c (lw_Z below #[Value.ref b] s) 25 D g (fun q : Nat => s.heap.size ≤ q) N ad ln A [(0, .inr (.ref b)), (1, gr 0), (3, gi x3), (4, gi x4), (5, gi x5), (6, gi x6), (7, gi x7), (8, gi x8), (23, gi x23)] k n 851 []) {N : Nat} {ad ln : Nat → Nat} (hN : 183 ≤ N) {k n : Nat} {A : gM} {x3 : Int32} {x4 : Int32} {x5 : Int32} {x6 : Int32} {x7 : Int32} {x8 : Int32} {x23 : Int32} (h : mL_law_b851 xs L K84 K851 N ln k n A x3 x4 x5 x6 x7 x8 x23 = some ()) : gJ p l e room_1 s m #[Value.ref b] below meth c (lw_Z below #[Value.ref b] s) 25 D g (fun q : Nat => s.heap.size ≤ q) N ad ln A [(0, .inr (.ref b)), (1, gr 0), (3, gi x3), (4, gi x4), (5, gi x5), (6, gi x6), (7, gi x7), (8, gi x8), (23, gi x23)] k n 851 [] := by
  unfold mL_law_b851 at h
  refine g_iload C 8 dL_law_851 rfl ?_
  refine g_bipush (v := 7) C dL_law_853 (by decide) ?_
  refine g_icmp_ge C dL_law_855 (tgt := 874) (by decide) (fun c1 => ?_) (fun c1 => ?_)
  · have h := g_tt c1 h
    obtain ⟨v2, ev2, h⟩ := g_lt h
    refine g_iinc C 7 dL_law_874 rfl ev2 (by decide) rfl ?_
    refine g_goto C dL_law_877 (tgt := 84) (by decide) ?_
    refine g_sub [1, 2, 3, 4, 5, 6, 7, 0] rfl ?_
    exact hK84 hN h
  · have h := g_ff c1 h
    refine g_aload_n C 1 dL_law_858 rfl ?_
    obtain ⟨hg4, h⟩ := g_gd h
    obtain ⟨A5, r6, eq3, h⟩ := g_cxx h
    refine g_callX C CX 0 [] (kX5_undo hN CX.1 eq3) qs_L_101 (by omega) (by omega) rfl rfl rfl rfl (Nat.le_of_ble_eq_true rfl) hg4 dL_law_859 ?_
    refine g_iload_n C 2 dL_law_862 rfl ?_
    refine g_icmp_ge C dL_law_863 (tgt := 868) (by decide) (fun c7 => ?_) (fun c7 => ?_)
    · have h := g_tt c7 h
      obtain ⟨v8, ev8, h⟩ := g_lt h
      refine g_iinc C 8 dL_law_868 rfl ev8 (by decide) rfl ?_
      refine g_goto C dL_law_871 (tgt := 851) (by decide) ?_
      refine g_sub [1, 2, 3, 4, 5, 6, 7, 8, 0] rfl ?_
      exact hK851 hN h
    · have h := g_ff c7 h
      refine g_iconst (v := 0) C dL_law_866 (by decide) ?_
      cases h

set_option maxHeartbeats 4000000 in
set_option maxRecDepth 20000 in
theorem wL_law_L851 (C : gC p room_1 s m #[Value.ref b] meth c cL_law RL 25 D g (fun q : Nat => s.heap.size ≤ q) 2048) (CX : gCP l s (fun q : Nat => s.heap.size ≤ q) b L xs) (hr : meth.sig.returnType = ret) {K84 : Nat → (Nat → Nat) → Nat → Nat → gM → Int32 → Int32 → Int32 → Int32 → Int32 → Int32 → Option (Unit)} (hK84 : ∀ {N : Nat} {ad ln : Nat → Nat} (hN : 183 ≤ N) {k n : Nat} {A : gM} {x3 : Int32} {x4 : Int32} {x5 : Int32} {x6 : Int32} {x7 : Int32} {x8 : Int32}, K84 N ln k n A x3 x4 x5 x6 x7 x8 = some () → gJ p l e room_1 s m #[Value.ref b] below meth c (lw_Z below #[Value.ref b] s) 25 D g (fun q : Nat => s.heap.size ≤ q) N ad ln A [(0, .inr (.ref b)), (1, gr 0), (3, gi x3), (4, gi x4), (5, gi x5), (6, gi x6), (7, gi x7), (8, gi x8)] k n 84 []) : ∀ (f : Nat) {N : Nat} {ad ln : Nat → Nat} (hN : 183 ≤ N) {k n : Nat} {A : gM} {x3 : Int32} {x4 : Int32} {x5 : Int32} {x6 : Int32} {x7 : Int32} {x8 : Int32} {x23 : Int32}, mL_law_L851 xs L K84 f N ln k n A x3 x4 x5 x6 x7 x8 x23 = some () → gJ p l e room_1 s m #[Value.ref b] below meth c (lw_Z below #[Value.ref b] s) 25 D g (fun q : Nat => s.heap.size ≤ q) N ad ln A [(0, .inr (.ref b)), (1, gr 0), (3, gi x3), (4, gi x4), (5, gi x5), (6, gi x6), (7, gi x7), (8, gi x8), (23, gi x23)] k n 851 []
  | 0, N, ad, ln, hN, k, n, A, x3, x4, x5, x6, x7, x8, x23, h => by cases h
  | f + 1, N, ad, ln, hN, k, n, A, x3, x4, x5, x6, x7, x8, x23, h => wL_law_b851 C CX hr hK84 (fun hN _ _ _ _ _ _ _ _ _ _ h => wL_law_L851 C CX hr hK84 f hN h) hN h
set_option maxHeartbeats 4000000 in
set_option maxRecDepth 20000 in
theorem wL_law_b848 (C : gC p room_1 s m #[Value.ref b] meth c cL_law RL 25 D g (fun q : Nat => s.heap.size ≤ q) 2048) (CX : gCP l s (fun q : Nat => s.heap.size ≤ q) b L xs) (hr : meth.sig.returnType = ret) {K84 : Nat → (Nat → Nat) → Nat → Nat → gM → Int32 → Int32 → Int32 → Int32 → Int32 → Int32 → Option (Unit)} (hK84 : ∀ {N : Nat} {ad ln : Nat → Nat} (hN : 183 ≤ N) {k n : Nat} {A : gM} {x3 : Int32} {x4 : Int32} {x5 : Int32} {x6 : Int32} {x7 : Int32} {x8 : Int32}, K84 N ln k n A x3 x4 x5 x6 x7 x8 = some () → gJ p l e room_1 s m #[Value.ref b] below meth c (lw_Z below #[Value.ref b] s) 25 D g (fun q : Nat => s.heap.size ≤ q) N ad ln A [(0, .inr (.ref b)), (1, gr 0), (3, gi x3), (4, gi x4), (5, gi x5), (6, gi x6), (7, gi x7), (8, gi x8)] k n 84 []) {N : Nat} {ad ln : Nat → Nat} (hN : 183 ≤ N) {k n : Nat} {A : gM} {x3 : Int32} {x4 : Int32} {x5 : Int32} {x6 : Int32} {x7 : Int32} {x8 : Int32} (h : mL_law_b848 xs L K84 N ln k n A x3 x4 x5 x6 x7 x8 = some ()) : gJ p l e room_1 s m #[Value.ref b] below meth c (lw_Z below #[Value.ref b] s) 25 D g (fun q : Nat => s.heap.size ≤ q) N ad ln A [(0, .inr (.ref b)), (1, gr 0), (3, gi x3), (4, gi x4), (5, gi x5), (6, gi x6), (7, gi x7), (8, gi x8)] k n 848 [] := by
  unfold mL_law_b848 at h
  refine g_iconst (v := 0) C dL_law_848 (by decide) ?_
  refine g_istore C dL_law_849 (by decide) rfl ?_
  refine g_sub [1, 2, 3, 4, 5, 6, 7, 8, 0] rfl ?_
  exact wL_law_L851 C CX hr hK84 gF hN h

set_option maxHeartbeats 4000000 in
set_option maxRecDepth 20000 in
theorem wL_law_b836 (C : gC p room_1 s m #[Value.ref b] meth c cL_law RL 25 D g (fun q : Nat => s.heap.size ≤ q) 2048) (CX : gCP l s (fun q : Nat => s.heap.size ≤ q) b L xs) (hr : meth.sig.returnType = ret) {K84 : Nat → (Nat → Nat) → Nat → Nat → gM → Int32 → Int32 → Int32 → Int32 → Int32 → Int32 → Option (Unit)} {K789 : Nat → (Nat → Nat) → Nat → Nat → gM → Int32 → Int32 → Int32 → Int32 → Int32 → Int32 → Int32 → Int32 → Int32 → Int32 → Int32 → Int32 → Option (Unit)} (hK84 : ∀ {N : Nat} {ad ln : Nat → Nat} (hN : 183 ≤ N) {k n : Nat} {A : gM} {x3 : Int32} {x4 : Int32} {x5 : Int32} {x6 : Int32} {x7 : Int32} {x8 : Int32}, K84 N ln k n A x3 x4 x5 x6 x7 x8 = some () → gJ p l e room_1 s m #[Value.ref b] below meth c (lw_Z below #[Value.ref b] s) 25 D g (fun q : Nat => s.heap.size ≤ q) N ad ln A [(0, .inr (.ref b)), (1, gr 0), (3, gi x3), (4, gi x4), (5, gi x5), (6, gi x6), (7, gi x7), (8, gi x8)] k n 84 []) (hK789 : ∀ {N : Nat} {ad ln : Nat → Nat} (hN : 183 ≤ N) {k n : Nat} {A : gM} {x3 : Int32} {x4 : Int32} {x5 : Int32} {x6 : Int32} {x7 : Int32} {x8 : Int32} {x10 : Int32} {x17 : Int32} {x21 : Int32} {x22 : Int32} {x23 : Int32} {x24 : Int32}, K789 N ln k n A x3 x4 x5 x6 x7 x8 x10 x17 x21 x22 x23 x24 = some () → gJ p l e room_1 s m #[Value.ref b] below meth c (lw_Z below #[Value.ref b] s) 25 D g (fun q : Nat => s.heap.size ≤ q) N ad ln A [(0, .inr (.ref b)), (1, gr 0), (3, gi x3), (4, gi x4), (5, gi x5), (6, gi x6), (7, gi x7), (8, gi x8), (10, gi x10), (17, gi x17), (21, gi x21), (22, gi x22), (23, gi x23), (24, gi x24)] k n 789 []) {N : Nat} {ad ln : Nat → Nat} (hN : 183 ≤ N) {k n : Nat} {A : gM} {x3 : Int32} {x4 : Int32} {x5 : Int32} {x6 : Int32} {x7 : Int32} {x8 : Int32} {x10 : Int32} {x17 : Int32} {x21 : Int32} {x22 : Int32} {x23 : Int32} {x24 : Int32} {s0 : Int32} {s1 : Int32} {s2 : Int32} (h : mL_law_b836 xs L K84 K789 N ln k n A x3 x4 x5 x6 x7 x8 x10 x17 x21 x22 x23 x24 s0 s1 s2 = some ()) : gJ p l e room_1 s m #[Value.ref b] below meth c (lw_Z below #[Value.ref b] s) 25 D g (fun q : Nat => s.heap.size ≤ q) N ad ln A [(0, .inr (.ref b)), (1, gr 0), (3, gi x3), (4, gi x4), (5, gi x5), (6, gi x6), (7, gi x7), (8, gi x8), (10, gi x10), (17, gi x17), (21, gi x21), (22, gi x22), (23, gi x23), (24, gi x24)] k n 836 [gi s2, gi s1, gi s0] := by
  unfold mL_law_b836 at h
  refine g_iadd C dL_law_836 ?_
  refine g_icmp_eq C dL_law_837 (tgt := 842) (by decide) (fun c1 => ?_) (fun c1 => ?_)
  · have h := g_tt c1 h
    obtain ⟨v2, ev2, h⟩ := g_lt h
    refine g_iinc C 13 dL_law_842 rfl ev2 (by decide) rfl ?_
    refine g_goto C dL_law_845 (tgt := 789) (by decide) ?_
    refine g_sub [1, 2, 3, 4, 5, 6, 7, 8, 9, 10, 11, 12, 13, 0] rfl ?_
    exact hK789 hN h
  · have h := g_ff c1 h
    refine g_iconst (v := 0) C dL_law_840 (by decide) ?_
    cases h

set_option maxHeartbeats 4000000 in
set_option maxRecDepth 20000 in
theorem wL_law_b796 (C : gC p room_1 s m #[Value.ref b] meth c cL_law RL 25 D g (fun q : Nat => s.heap.size ≤ q) 2048) (CX : gCP l s (fun q : Nat => s.heap.size ≤ q) b L xs) (hr : meth.sig.returnType = ret) {K84 : Nat → (Nat → Nat) → Nat → Nat → gM → Int32 → Int32 → Int32 → Int32 → Int32 → Int32 → Option (Unit)} {K789 : Nat → (Nat → Nat) → Nat → Nat → gM → Int32 → Int32 → Int32 → Int32 → Int32 → Int32 → Int32 → Int32 → Int32 → Int32 → Int32 → Int32 → Option (Unit)} (hK84 : ∀ {N : Nat} {ad ln : Nat → Nat} (hN : 183 ≤ N) {k n : Nat} {A : gM} {x3 : Int32} {x4 : Int32} {x5 : Int32} {x6 : Int32} {x7 : Int32} {x8 : Int32}, K84 N ln k n A x3 x4 x5 x6 x7 x8 = some () → gJ p l e room_1 s m #[Value.ref b] below meth c (lw_Z below #[Value.ref b] s) 25 D g (fun q : Nat => s.heap.size ≤ q) N ad ln A [(0, .inr (.ref b)), (1, gr 0), (3, gi x3), (4, gi x4), (5, gi x5), (6, gi x6), (7, gi x7), (8, gi x8)] k n 84 []) (hK789 : ∀ {N : Nat} {ad ln : Nat → Nat} (hN : 183 ≤ N) {k n : Nat} {A : gM} {x3 : Int32} {x4 : Int32} {x5 : Int32} {x6 : Int32} {x7 : Int32} {x8 : Int32} {x10 : Int32} {x17 : Int32} {x21 : Int32} {x22 : Int32} {x23 : Int32} {x24 : Int32}, K789 N ln k n A x3 x4 x5 x6 x7 x8 x10 x17 x21 x22 x23 x24 = some () → gJ p l e room_1 s m #[Value.ref b] below meth c (lw_Z below #[Value.ref b] s) 25 D g (fun q : Nat => s.heap.size ≤ q) N ad ln A [(0, .inr (.ref b)), (1, gr 0), (3, gi x3), (4, gi x4), (5, gi x5), (6, gi x6), (7, gi x7), (8, gi x8), (10, gi x10), (17, gi x17), (21, gi x21), (22, gi x22), (23, gi x23), (24, gi x24)] k n 789 []) {N : Nat} {ad ln : Nat → Nat} (hN : 183 ≤ N) {k n : Nat} {A : gM} {x3 : Int32} {x4 : Int32} {x5 : Int32} {x6 : Int32} {x7 : Int32} {x8 : Int32} {x10 : Int32} {x17 : Int32} {x21 : Int32} {x22 : Int32} {x23 : Int32} {x24 : Int32} (h : mL_law_b796 xs L K84 K789 N ln k n A x3 x4 x5 x6 x7 x8 x10 x17 x21 x22 x23 x24 = some ()) : gJ p l e room_1 s m #[Value.ref b] below meth c (lw_Z below #[Value.ref b] s) 25 D g (fun q : Nat => s.heap.size ≤ q) N ad ln A [(0, .inr (.ref b)), (1, gr 0), (3, gi x3), (4, gi x4), (5, gi x5), (6, gi x6), (7, gi x7), (8, gi x8), (10, gi x10), (17, gi x17), (21, gi x21), (22, gi x22), (23, gi x23), (24, gi x24)] k n 796 [] := by
  unfold mL_law_b796 at h
  refine g_aload_n C 1 dL_law_796 rfl ?_
  refine g_iload C 9 dL_law_797 rfl ?_
  refine g_iconst (v := 1) C dL_law_799 (by decide) ?_
  refine g_iload C 10 dL_law_800 rfl ?_
  refine g_iadd C dL_law_802 ?_
  refine g_iload C 13 dL_law_803 rfl ?_
  refine g_iadd C dL_law_805 ?_
  obtain ⟨hg2, h⟩ := g_gd h
  obtain ⟨A3, r4, eq1, h⟩ := g_cxx h
  refine g_callX C CX 0 [gi x17, gi ((1 + x21) + x24)] (kX5_code hN CX.1 eq1) qs_L_49 (by omega) (by omega) rfl rfl rfl rfl (Nat.le_of_ble_eq_true rfl) hg2 dL_law_806 ?_
  refine g_aload_n C 1 dL_law_809 rfl ?_
  refine g_iload C 8 dL_law_810 rfl ?_
  refine g_iload C 13 dL_law_812 rfl ?_
  obtain ⟨hg6, h⟩ := g_gd h
  obtain ⟨A7, r8, eq5, h⟩ := g_cxx h
  refine g_callX C CX 0 [gi x10, gi x24] (kX5_code hN CX.1 eq5) qs_L_49 (by omega) (by omega) rfl rfl rfl rfl (Nat.le_of_ble_eq_true rfl) hg6 dL_law_814 ?_
  refine g_aload_n C 1 dL_law_817 rfl ?_
  refine g_iload C 8 dL_law_818 rfl ?_
  refine g_iload C 13 dL_law_820 rfl ?_
  obtain ⟨hg10, h⟩ := g_gd h
  obtain ⟨A11, r12, eq9, h⟩ := g_cxx h
  refine g_callX C CX 0 [gi x10, gi x24] (kX5_code hN CX.1 eq9) qs_L_49 (by omega) (by omega) rfl rfl rfl rfl (Nat.le_of_ble_eq_true rfl) hg10 dL_law_822 ?_
  refine g_bipush (v := 9) C dL_law_825 (by decide) ?_
  refine g_icmp_le C dL_law_827 (tgt := 835) (by decide) (fun c13 => ?_) (fun c13 => ?_)
  · have h := g_tt c13 h
    refine g_iconst (v := 0) C dL_law_835 (by decide) ?_
    refine g_sub [0, 1, 2, 3, 4, 5, 6, 7, 8, 9, 10, 11, 12, 13] rfl ?_
    exact wL_law_b836 C CX hr hK84 hK789 hN h
  · have h := g_ff c13 h
    refine g_iload C 11 dL_law_830 rfl ?_
    refine g_goto C dL_law_832 (tgt := 836) (by decide) ?_
    refine g_sub [0, 1, 2, 3, 4, 5, 6, 7, 8, 9, 10, 11, 12, 13] rfl ?_
    exact wL_law_b836 C CX hr hK84 hK789 hN h

set_option maxHeartbeats 4000000 in
set_option maxRecDepth 20000 in
theorem wL_law_b789 (C : gC p room_1 s m #[Value.ref b] meth c cL_law RL 25 D g (fun q : Nat => s.heap.size ≤ q) 2048) (CX : gCP l s (fun q : Nat => s.heap.size ≤ q) b L xs) (hr : meth.sig.returnType = ret) {K84 : Nat → (Nat → Nat) → Nat → Nat → gM → Int32 → Int32 → Int32 → Int32 → Int32 → Int32 → Option (Unit)} {K789 : Nat → (Nat → Nat) → Nat → Nat → gM → Int32 → Int32 → Int32 → Int32 → Int32 → Int32 → Int32 → Int32 → Int32 → Int32 → Int32 → Int32 → Option (Unit)} (hK84 : ∀ {N : Nat} {ad ln : Nat → Nat} (hN : 183 ≤ N) {k n : Nat} {A : gM} {x3 : Int32} {x4 : Int32} {x5 : Int32} {x6 : Int32} {x7 : Int32} {x8 : Int32}, K84 N ln k n A x3 x4 x5 x6 x7 x8 = some () → gJ p l e room_1 s m #[Value.ref b] below meth c (lw_Z below #[Value.ref b] s) 25 D g (fun q : Nat => s.heap.size ≤ q) N ad ln A [(0, .inr (.ref b)), (1, gr 0), (3, gi x3), (4, gi x4), (5, gi x5), (6, gi x6), (7, gi x7), (8, gi x8)] k n 84 []) (hK789 : ∀ {N : Nat} {ad ln : Nat → Nat} (hN : 183 ≤ N) {k n : Nat} {A : gM} {x3 : Int32} {x4 : Int32} {x5 : Int32} {x6 : Int32} {x7 : Int32} {x8 : Int32} {x10 : Int32} {x17 : Int32} {x21 : Int32} {x22 : Int32} {x23 : Int32} {x24 : Int32}, K789 N ln k n A x3 x4 x5 x6 x7 x8 x10 x17 x21 x22 x23 x24 = some () → gJ p l e room_1 s m #[Value.ref b] below meth c (lw_Z below #[Value.ref b] s) 25 D g (fun q : Nat => s.heap.size ≤ q) N ad ln A [(0, .inr (.ref b)), (1, gr 0), (3, gi x3), (4, gi x4), (5, gi x5), (6, gi x6), (7, gi x7), (8, gi x8), (10, gi x10), (17, gi x17), (21, gi x21), (22, gi x22), (23, gi x23), (24, gi x24)] k n 789 []) {N : Nat} {ad ln : Nat → Nat} (hN : 183 ≤ N) {k n : Nat} {A : gM} {x3 : Int32} {x4 : Int32} {x5 : Int32} {x6 : Int32} {x7 : Int32} {x8 : Int32} {x10 : Int32} {x17 : Int32} {x21 : Int32} {x22 : Int32} {x23 : Int32} {x24 : Int32} (h : mL_law_b789 xs L K84 K789 N ln k n A x3 x4 x5 x6 x7 x8 x10 x17 x21 x22 x23 x24 = some ()) : gJ p l e room_1 s m #[Value.ref b] below meth c (lw_Z below #[Value.ref b] s) 25 D g (fun q : Nat => s.heap.size ≤ q) N ad ln A [(0, .inr (.ref b)), (1, gr 0), (3, gi x3), (4, gi x4), (5, gi x5), (6, gi x6), (7, gi x7), (8, gi x8), (10, gi x10), (17, gi x17), (21, gi x21), (22, gi x22), (23, gi x23), (24, gi x24)] k n 789 [] := by
  unfold mL_law_b789 at h
  refine g_iload C 13 dL_law_789 rfl ?_
  refine g_iload C 12 dL_law_791 rfl ?_
  refine g_icmp_ge C dL_law_793 (tgt := 848) (by decide) (fun c1 => ?_) (fun c1 => ?_)
  · have h := g_tt c1 h
    refine g_sub [0, 1, 2, 3, 4, 5, 6, 7] rfl ?_
    exact wL_law_b848 C CX hr hK84 hN h
  · have h := g_ff c1 h
    refine g_sub [0, 1, 2, 3, 4, 5, 6, 7, 8, 9, 10, 11, 12, 13] rfl ?_
    exact wL_law_b796 C CX hr hK84 hK789 hN h

set_option maxHeartbeats 4000000 in
set_option maxRecDepth 20000 in
theorem wL_law_L789 (C : gC p room_1 s m #[Value.ref b] meth c cL_law RL 25 D g (fun q : Nat => s.heap.size ≤ q) 2048) (CX : gCP l s (fun q : Nat => s.heap.size ≤ q) b L xs) (hr : meth.sig.returnType = ret) {K84 : Nat → (Nat → Nat) → Nat → Nat → gM → Int32 → Int32 → Int32 → Int32 → Int32 → Int32 → Option (Unit)} (hK84 : ∀ {N : Nat} {ad ln : Nat → Nat} (hN : 183 ≤ N) {k n : Nat} {A : gM} {x3 : Int32} {x4 : Int32} {x5 : Int32} {x6 : Int32} {x7 : Int32} {x8 : Int32}, K84 N ln k n A x3 x4 x5 x6 x7 x8 = some () → gJ p l e room_1 s m #[Value.ref b] below meth c (lw_Z below #[Value.ref b] s) 25 D g (fun q : Nat => s.heap.size ≤ q) N ad ln A [(0, .inr (.ref b)), (1, gr 0), (3, gi x3), (4, gi x4), (5, gi x5), (6, gi x6), (7, gi x7), (8, gi x8)] k n 84 []) : ∀ (f : Nat) {N : Nat} {ad ln : Nat → Nat} (hN : 183 ≤ N) {k n : Nat} {A : gM} {x3 : Int32} {x4 : Int32} {x5 : Int32} {x6 : Int32} {x7 : Int32} {x8 : Int32} {x10 : Int32} {x17 : Int32} {x21 : Int32} {x22 : Int32} {x23 : Int32} {x24 : Int32}, mL_law_L789 xs L K84 f N ln k n A x3 x4 x5 x6 x7 x8 x10 x17 x21 x22 x23 x24 = some () → gJ p l e room_1 s m #[Value.ref b] below meth c (lw_Z below #[Value.ref b] s) 25 D g (fun q : Nat => s.heap.size ≤ q) N ad ln A [(0, .inr (.ref b)), (1, gr 0), (3, gi x3), (4, gi x4), (5, gi x5), (6, gi x6), (7, gi x7), (8, gi x8), (10, gi x10), (17, gi x17), (21, gi x21), (22, gi x22), (23, gi x23), (24, gi x24)] k n 789 []
  | 0, N, ad, ln, hN, k, n, A, x3, x4, x5, x6, x7, x8, x10, x17, x21, x22, x23, x24, h => by cases h
  | f + 1, N, ad, ln, hN, k, n, A, x3, x4, x5, x6, x7, x8, x10, x17, x21, x22, x23, x24, h => wL_law_b789 C CX hr hK84 (fun hN _ _ _ _ _ _ _ _ _ _ _ _ _ _ _ h => wL_law_L789 C CX hr hK84 f hN h) hN h
set_option maxHeartbeats 4000000 in
set_option maxRecDepth 20000 in
theorem wL_law_b757 (C : gC p room_1 s m #[Value.ref b] meth c cL_law RL 25 D g (fun q : Nat => s.heap.size ≤ q) 2048) (CX : gCP l s (fun q : Nat => s.heap.size ≤ q) b L xs) (hr : meth.sig.returnType = ret) {K84 : Nat → (Nat → Nat) → Nat → Nat → gM → Int32 → Int32 → Int32 → Int32 → Int32 → Int32 → Option (Unit)} {K750 : Nat → (Nat → Nat) → Nat → Nat → gM → Int32 → Int32 → Int32 → Int32 → Int32 → Int32 → Int32 → Int32 → Int32 → Int32 → Int32 → Int32 → Int32 → Option (Unit)} (hK84 : ∀ {N : Nat} {ad ln : Nat → Nat} (hN : 183 ≤ N) {k n : Nat} {A : gM} {x3 : Int32} {x4 : Int32} {x5 : Int32} {x6 : Int32} {x7 : Int32} {x8 : Int32}, K84 N ln k n A x3 x4 x5 x6 x7 x8 = some () → gJ p l e room_1 s m #[Value.ref b] below meth c (lw_Z below #[Value.ref b] s) 25 D g (fun q : Nat => s.heap.size ≤ q) N ad ln A [(0, .inr (.ref b)), (1, gr 0), (3, gi x3), (4, gi x4), (5, gi x5), (6, gi x6), (7, gi x7), (8, gi x8)] k n 84 []) (hK750 : ∀ {N : Nat} {ad ln : Nat → Nat} (hN : 183 ≤ N) {k n : Nat} {A : gM} {x3 : Int32} {x4 : Int32} {x5 : Int32} {x6 : Int32} {x7 : Int32} {x8 : Int32} {x9 : Int32} {x10 : Int32} {x17 : Int32} {x21 : Int32} {x22 : Int32} {x23 : Int32} {x24 : Int32}, K750 N ln k n A x3 x4 x5 x6 x7 x8 x9 x10 x17 x21 x22 x23 x24 = some () → gJ p l e room_1 s m #[Value.ref b] below meth c (lw_Z below #[Value.ref b] s) 25 D g (fun q : Nat => s.heap.size ≤ q) N ad ln A [(0, .inr (.ref b)), (1, gr 0), (3, gi x3), (4, gi x4), (5, gi x5), (6, gi x6), (7, gi x7), (8, gi x8), (9, gi x9), (10, gi x10), (17, gi x17), (21, gi x21), (22, gi x22), (23, gi x23), (24, gi x24)] k n 750 []) {N : Nat} {ad ln : Nat → Nat} (hN : 183 ≤ N) {k n : Nat} {A : gM} {x3 : Int32} {x4 : Int32} {x5 : Int32} {x6 : Int32} {x7 : Int32} {x8 : Int32} {x9 : Int32} {x10 : Int32} {x17 : Int32} {x21 : Int32} {x22 : Int32} {x23 : Int32} {x24 : Int32} (h : mL_law_b757 xs L K84 K750 N ln k n A x3 x4 x5 x6 x7 x8 x9 x10 x17 x21 x22 x23 x24 = some ()) : gJ p l e room_1 s m #[Value.ref b] below meth c (lw_Z below #[Value.ref b] s) 25 D g (fun q : Nat => s.heap.size ≤ q) N ad ln A [(0, .inr (.ref b)), (1, gr 0), (3, gi x3), (4, gi x4), (5, gi x5), (6, gi x6), (7, gi x7), (8, gi x8), (9, gi x9), (10, gi x10), (17, gi x17), (21, gi x21), (22, gi x22), (23, gi x23), (24, gi x24)] k n 757 [] := by
  unfold mL_law_b757 at h
  refine g_aload_n C 1 dL_law_757 rfl ?_
  refine g_iload C 10 dL_law_758 rfl ?_
  refine g_iconst (v := 1) C dL_law_760 (by decide) ?_
  refine g_iload C 14 dL_law_761 rfl ?_
  refine g_iadd C dL_law_763 ?_
  obtain ⟨hg2, h⟩ := g_gd h
  obtain ⟨A3, r4, eq1, h⟩ := g_cxx h
  refine g_callX C CX 0 [gi x17, gi (1 + x24)] (kX5_code hN CX.1 eq1) qs_L_49 (by omega) (by omega) rfl rfl rfl rfl (Nat.le_of_ble_eq_true rfl) hg2 dL_law_764 ?_
  refine g_aload_n C 1 dL_law_767 rfl ?_
  refine g_iload C 8 dL_law_768 rfl ?_
  refine g_iload C 14 dL_law_770 rfl ?_
  obtain ⟨hg6, h⟩ := g_gd h
  obtain ⟨A7, r8, eq5, h⟩ := g_cxx h
  refine g_callX C CX 0 [gi x9, gi x24] (kX5_code hN CX.1 eq5) qs_L_49 (by omega) (by omega) rfl rfl rfl rfl (Nat.le_of_ble_eq_true rfl) hg6 dL_law_772 ?_
  refine g_icmp_eq C dL_law_775 (tgt := 780) (by decide) (fun c9 => ?_) (fun c9 => ?_)
  · have h := g_tt c9 h
    obtain ⟨v10, ev10, h⟩ := g_lt h
    refine g_iinc C 14 dL_law_780 rfl ev10 (by decide) rfl ?_
    refine g_goto C dL_law_783 (tgt := 750) (by decide) ?_
    refine g_sub [1, 2, 3, 4, 5, 6, 7, 8, 9, 10, 11, 12, 13, 14, 0] rfl ?_
    exact hK750 hN h
  · have h := g_ff c9 h
    refine g_iconst (v := 0) C dL_law_778 (by decide) ?_
    cases h

set_option maxHeartbeats 4000000 in
set_option maxRecDepth 20000 in
theorem wL_law_b750 (C : gC p room_1 s m #[Value.ref b] meth c cL_law RL 25 D g (fun q : Nat => s.heap.size ≤ q) 2048) (CX : gCP l s (fun q : Nat => s.heap.size ≤ q) b L xs) (hr : meth.sig.returnType = ret) {K84 : Nat → (Nat → Nat) → Nat → Nat → gM → Int32 → Int32 → Int32 → Int32 → Int32 → Int32 → Option (Unit)} {K750 : Nat → (Nat → Nat) → Nat → Nat → gM → Int32 → Int32 → Int32 → Int32 → Int32 → Int32 → Int32 → Int32 → Int32 → Int32 → Int32 → Int32 → Int32 → Option (Unit)} (hK84 : ∀ {N : Nat} {ad ln : Nat → Nat} (hN : 183 ≤ N) {k n : Nat} {A : gM} {x3 : Int32} {x4 : Int32} {x5 : Int32} {x6 : Int32} {x7 : Int32} {x8 : Int32}, K84 N ln k n A x3 x4 x5 x6 x7 x8 = some () → gJ p l e room_1 s m #[Value.ref b] below meth c (lw_Z below #[Value.ref b] s) 25 D g (fun q : Nat => s.heap.size ≤ q) N ad ln A [(0, .inr (.ref b)), (1, gr 0), (3, gi x3), (4, gi x4), (5, gi x5), (6, gi x6), (7, gi x7), (8, gi x8)] k n 84 []) (hK750 : ∀ {N : Nat} {ad ln : Nat → Nat} (hN : 183 ≤ N) {k n : Nat} {A : gM} {x3 : Int32} {x4 : Int32} {x5 : Int32} {x6 : Int32} {x7 : Int32} {x8 : Int32} {x9 : Int32} {x10 : Int32} {x17 : Int32} {x21 : Int32} {x22 : Int32} {x23 : Int32} {x24 : Int32}, K750 N ln k n A x3 x4 x5 x6 x7 x8 x9 x10 x17 x21 x22 x23 x24 = some () → gJ p l e room_1 s m #[Value.ref b] below meth c (lw_Z below #[Value.ref b] s) 25 D g (fun q : Nat => s.heap.size ≤ q) N ad ln A [(0, .inr (.ref b)), (1, gr 0), (3, gi x3), (4, gi x4), (5, gi x5), (6, gi x6), (7, gi x7), (8, gi x8), (9, gi x9), (10, gi x10), (17, gi x17), (21, gi x21), (22, gi x22), (23, gi x23), (24, gi x24)] k n 750 []) {N : Nat} {ad ln : Nat → Nat} (hN : 183 ≤ N) {k n : Nat} {A : gM} {x3 : Int32} {x4 : Int32} {x5 : Int32} {x6 : Int32} {x7 : Int32} {x8 : Int32} {x9 : Int32} {x10 : Int32} {x17 : Int32} {x21 : Int32} {x22 : Int32} {x23 : Int32} {x24 : Int32} (h : mL_law_b750 xs L K84 K750 N ln k n A x3 x4 x5 x6 x7 x8 x9 x10 x17 x21 x22 x23 x24 = some ()) : gJ p l e room_1 s m #[Value.ref b] below meth c (lw_Z below #[Value.ref b] s) 25 D g (fun q : Nat => s.heap.size ≤ q) N ad ln A [(0, .inr (.ref b)), (1, gr 0), (3, gi x3), (4, gi x4), (5, gi x5), (6, gi x6), (7, gi x7), (8, gi x8), (9, gi x9), (10, gi x10), (17, gi x17), (21, gi x21), (22, gi x22), (23, gi x23), (24, gi x24)] k n 750 [] := by
  unfold mL_law_b750 at h
  refine g_iload C 14 dL_law_750 rfl ?_
  refine g_iload C 11 dL_law_752 rfl ?_
  refine g_icmp_ge C dL_law_754 (tgt := 786) (by decide) (fun c1 => ?_) (fun c1 => ?_)
  · have h := g_tt c1 h
    refine g_iconst (v := 0) C dL_law_786 (by decide) ?_
    refine g_istore C dL_law_787 (by decide) rfl ?_
    refine g_sub [1, 2, 3, 4, 5, 6, 7, 8, 10, 11, 12, 13, 14, 0] rfl ?_
    exact wL_law_L789 C CX hr hK84 gF hN h
  · have h := g_ff c1 h
    refine g_sub [0, 1, 2, 3, 4, 5, 6, 7, 8, 9, 10, 11, 12, 13, 14] rfl ?_
    exact wL_law_b757 C CX hr hK84 hK750 hN h

set_option maxHeartbeats 4000000 in
set_option maxRecDepth 20000 in
theorem wL_law_L750 (C : gC p room_1 s m #[Value.ref b] meth c cL_law RL 25 D g (fun q : Nat => s.heap.size ≤ q) 2048) (CX : gCP l s (fun q : Nat => s.heap.size ≤ q) b L xs) (hr : meth.sig.returnType = ret) {K84 : Nat → (Nat → Nat) → Nat → Nat → gM → Int32 → Int32 → Int32 → Int32 → Int32 → Int32 → Option (Unit)} (hK84 : ∀ {N : Nat} {ad ln : Nat → Nat} (hN : 183 ≤ N) {k n : Nat} {A : gM} {x3 : Int32} {x4 : Int32} {x5 : Int32} {x6 : Int32} {x7 : Int32} {x8 : Int32}, K84 N ln k n A x3 x4 x5 x6 x7 x8 = some () → gJ p l e room_1 s m #[Value.ref b] below meth c (lw_Z below #[Value.ref b] s) 25 D g (fun q : Nat => s.heap.size ≤ q) N ad ln A [(0, .inr (.ref b)), (1, gr 0), (3, gi x3), (4, gi x4), (5, gi x5), (6, gi x6), (7, gi x7), (8, gi x8)] k n 84 []) : ∀ (f : Nat) {N : Nat} {ad ln : Nat → Nat} (hN : 183 ≤ N) {k n : Nat} {A : gM} {x3 : Int32} {x4 : Int32} {x5 : Int32} {x6 : Int32} {x7 : Int32} {x8 : Int32} {x9 : Int32} {x10 : Int32} {x17 : Int32} {x21 : Int32} {x22 : Int32} {x23 : Int32} {x24 : Int32}, mL_law_L750 xs L K84 f N ln k n A x3 x4 x5 x6 x7 x8 x9 x10 x17 x21 x22 x23 x24 = some () → gJ p l e room_1 s m #[Value.ref b] below meth c (lw_Z below #[Value.ref b] s) 25 D g (fun q : Nat => s.heap.size ≤ q) N ad ln A [(0, .inr (.ref b)), (1, gr 0), (3, gi x3), (4, gi x4), (5, gi x5), (6, gi x6), (7, gi x7), (8, gi x8), (9, gi x9), (10, gi x10), (17, gi x17), (21, gi x21), (22, gi x22), (23, gi x23), (24, gi x24)] k n 750 []
  | 0, N, ad, ln, hN, k, n, A, x3, x4, x5, x6, x7, x8, x9, x10, x17, x21, x22, x23, x24, h => by cases h
  | f + 1, N, ad, ln, hN, k, n, A, x3, x4, x5, x6, x7, x8, x9, x10, x17, x21, x22, x23, x24, h => wL_law_b750 C CX hr hK84 (fun hN _ _ _ _ _ _ _ _ _ _ _ _ _ _ _ _ h => wL_law_L750 C CX hr hK84 f hN h) hN h
set_option maxHeartbeats 4000000 in
set_option maxRecDepth 20000 in
theorem wL_law_b734 (C : gC p room_1 s m #[Value.ref b] meth c cL_law RL 25 D g (fun q : Nat => s.heap.size ≤ q) 2048) (CX : gCP l s (fun q : Nat => s.heap.size ≤ q) b L xs) (hr : meth.sig.returnType = ret) {K84 : Nat → (Nat → Nat) → Nat → Nat → gM → Int32 → Int32 → Int32 → Int32 → Int32 → Int32 → Option (Unit)} (hK84 : ∀ {N : Nat} {ad ln : Nat → Nat} (hN : 183 ≤ N) {k n : Nat} {A : gM} {x3 : Int32} {x4 : Int32} {x5 : Int32} {x6 : Int32} {x7 : Int32} {x8 : Int32}, K84 N ln k n A x3 x4 x5 x6 x7 x8 = some () → gJ p l e room_1 s m #[Value.ref b] below meth c (lw_Z below #[Value.ref b] s) 25 D g (fun q : Nat => s.heap.size ≤ q) N ad ln A [(0, .inr (.ref b)), (1, gr 0), (3, gi x3), (4, gi x4), (5, gi x5), (6, gi x6), (7, gi x7), (8, gi x8)] k n 84 []) {N : Nat} {ad ln : Nat → Nat} (hN : 183 ≤ N) {k n : Nat} {A : gM} {x3 : Int32} {x4 : Int32} {x5 : Int32} {x6 : Int32} {x7 : Int32} {x8 : Int32} {x9 : Int32} {x10 : Int32} {x17 : Int32} {x19 : Int32} {x21 : Int32} {x22 : Int32} {x23 : Int32} (h : mL_law_b734 xs L K84 N ln k n A x3 x4 x5 x6 x7 x8 x9 x10 x17 x19 x21 x22 x23 = some ()) : gJ p l e room_1 s m #[Value.ref b] below meth c (lw_Z below #[Value.ref b] s) 25 D g (fun q : Nat => s.heap.size ≤ q) N ad ln A [(0, .inr (.ref b)), (1, gr 0), (3, gi x3), (4, gi x4), (5, gi x5), (6, gi x6), (7, gi x7), (8, gi x8), (9, gi x9), (10, gi x10), (17, gi x17), (19, gi x19), (21, gi x21), (22, gi x22), (23, gi x23)] k n 734 [] := by
  unfold mL_law_b734 at h
  refine g_aload_n C 1 dL_law_734 rfl ?_
  refine g_iload C 11 dL_law_735 rfl ?_
  refine g_iload C 9 dL_law_737 rfl ?_
  obtain ⟨hg2, h⟩ := g_gd h
  obtain ⟨A3, r4, eq1, h⟩ := g_cxx h
  refine g_callX C CX 0 [gi x19, gi x10] (kX5_same hN CX.1 eq1) qs_L_108 (by omega) (by omega) rfl rfl rfl rfl (Nat.le_of_ble_eq_true rfl) hg2 dL_law_739 ?_
  refine g_if_ne C dL_law_742 (tgt := 747) (by decide) (fun c5 => ?_) (fun c5 => ?_)
  · have h := g_ff c5 h
    refine g_iconst (v := 0) C dL_law_747 (by decide) ?_
    refine g_istore C dL_law_748 (by decide) rfl ?_
    refine g_sub [1, 2, 3, 4, 5, 6, 7, 8, 9, 10, 11, 13, 14, 15, 0] rfl ?_
    exact wL_law_L750 C CX hr hK84 gF hN h
  · have h := g_tt c5 h
    refine g_sub [] rfl ?_
    exact wL_law_b745 C CX hr hN h

set_option maxHeartbeats 4000000 in
set_option maxRecDepth 20000 in
theorem wL_law_b723 (C : gC p room_1 s m #[Value.ref b] meth c cL_law RL 25 D g (fun q : Nat => s.heap.size ≤ q) 2048) (CX : gCP l s (fun q : Nat => s.heap.size ≤ q) b L xs) (hr : meth.sig.returnType = ret) {K84 : Nat → (Nat → Nat) → Nat → Nat → gM → Int32 → Int32 → Int32 → Int32 → Int32 → Int32 → Option (Unit)} (hK84 : ∀ {N : Nat} {ad ln : Nat → Nat} (hN : 183 ≤ N) {k n : Nat} {A : gM} {x3 : Int32} {x4 : Int32} {x5 : Int32} {x6 : Int32} {x7 : Int32} {x8 : Int32}, K84 N ln k n A x3 x4 x5 x6 x7 x8 = some () → gJ p l e room_1 s m #[Value.ref b] below meth c (lw_Z below #[Value.ref b] s) 25 D g (fun q : Nat => s.heap.size ≤ q) N ad ln A [(0, .inr (.ref b)), (1, gr 0), (3, gi x3), (4, gi x4), (5, gi x5), (6, gi x6), (7, gi x7), (8, gi x8)] k n 84 []) {N : Nat} {ad ln : Nat → Nat} (hN : 183 ≤ N) {k n : Nat} {A : gM} {x3 : Int32} {x4 : Int32} {x5 : Int32} {x6 : Int32} {x7 : Int32} {x8 : Int32} {x9 : Int32} {x10 : Int32} {x17 : Int32} {x18 : Int32} {x19 : Int32} {x21 : Int32} {x22 : Int32} {x23 : Int32} (h : mL_law_b723 xs L K84 N ln k n A x3 x4 x5 x6 x7 x8 x9 x10 x17 x18 x19 x21 x22 x23 = some ()) : gJ p l e room_1 s m #[Value.ref b] below meth c (lw_Z below #[Value.ref b] s) 25 D g (fun q : Nat => s.heap.size ≤ q) N ad ln A [(0, .inr (.ref b)), (1, gr 0), (3, gi x3), (4, gi x4), (5, gi x5), (6, gi x6), (7, gi x7), (8, gi x8), (9, gi x9), (10, gi x10), (17, gi x17), (18, gi x18), (19, gi x19), (21, gi x21), (22, gi x22), (23, gi x23)] k n 723 [] := by
  unfold mL_law_b723 at h
  refine g_aload_n C 1 dL_law_723 rfl ?_
  refine g_iload C 11 dL_law_724 rfl ?_
  refine g_iload C 8 dL_law_726 rfl ?_
  obtain ⟨hg2, h⟩ := g_gd h
  obtain ⟨A3, r4, eq1, h⟩ := g_cxx h
  refine g_callX C CX 0 [gi x18, gi x9] (kX5_same hN CX.1 eq1) qs_L_108 (by omega) (by omega) rfl rfl rfl rfl (Nat.le_of_ble_eq_true rfl) hg2 dL_law_728 ?_
  refine g_if_eq C dL_law_731 (tgt := 745) (by decide) (fun c5 => ?_) (fun c5 => ?_)
  · have h := g_tt c5 h
    refine g_sub [] rfl ?_
    exact wL_law_b745 C CX hr hN h
  · have h := g_ff c5 h
    refine g_sub [0, 1, 2, 3, 4, 5, 6, 7, 8, 9, 10, 12, 13, 14, 15] rfl ?_
    exact wL_law_b734 C CX hr hK84 hN h

set_option maxHeartbeats 4000000 in
set_option maxRecDepth 20000 in
theorem wL_law_b712 (C : gC p room_1 s m #[Value.ref b] meth c cL_law RL 25 D g (fun q : Nat => s.heap.size ≤ q) 2048) (CX : gCP l s (fun q : Nat => s.heap.size ≤ q) b L xs) (hr : meth.sig.returnType = ret) {K84 : Nat → (Nat → Nat) → Nat → Nat → gM → Int32 → Int32 → Int32 → Int32 → Int32 → Int32 → Option (Unit)} (hK84 : ∀ {N : Nat} {ad ln : Nat → Nat} (hN : 183 ≤ N) {k n : Nat} {A : gM} {x3 : Int32} {x4 : Int32} {x5 : Int32} {x6 : Int32} {x7 : Int32} {x8 : Int32}, K84 N ln k n A x3 x4 x5 x6 x7 x8 = some () → gJ p l e room_1 s m #[Value.ref b] below meth c (lw_Z below #[Value.ref b] s) 25 D g (fun q : Nat => s.heap.size ≤ q) N ad ln A [(0, .inr (.ref b)), (1, gr 0), (3, gi x3), (4, gi x4), (5, gi x5), (6, gi x6), (7, gi x7), (8, gi x8)] k n 84 []) {N : Nat} {ad ln : Nat → Nat} (hN : 183 ≤ N) {k n : Nat} {A : gM} {x3 : Int32} {x4 : Int32} {x5 : Int32} {x6 : Int32} {x7 : Int32} {x8 : Int32} {x9 : Int32} {x10 : Int32} {x17 : Int32} {x18 : Int32} {x19 : Int32} {x21 : Int32} {x22 : Int32} {x23 : Int32} (h : mL_law_b712 xs L K84 N ln k n A x3 x4 x5 x6 x7 x8 x9 x10 x17 x18 x19 x21 x22 x23 = some ()) : gJ p l e room_1 s m #[Value.ref b] below meth c (lw_Z below #[Value.ref b] s) 25 D g (fun q : Nat => s.heap.size ≤ q) N ad ln A [(0, .inr (.ref b)), (1, gr 0), (3, gi x3), (4, gi x4), (5, gi x5), (6, gi x6), (7, gi x7), (8, gi x8), (9, gi x9), (10, gi x10), (17, gi x17), (18, gi x18), (19, gi x19), (21, gi x21), (22, gi x22), (23, gi x23)] k n 712 [] := by
  unfold mL_law_b712 at h
  refine g_aload_n C 1 dL_law_712 rfl ?_
  refine g_iload C 10 dL_law_713 rfl ?_
  refine g_iconst (v := 0) C dL_law_715 (by decide) ?_
  obtain ⟨hg2, h⟩ := g_gd h
  obtain ⟨A3, r4, eq1, h⟩ := g_cxx h
  refine g_callX C CX 0 [gi x17, gi 0] (kX5_code hN CX.1 eq1) qs_L_49 (by omega) (by omega) rfl rfl rfl rfl (Nat.le_of_ble_eq_true rfl) hg2 dL_law_716 ?_
  refine g_iconst (v := 3) C dL_law_719 (by decide) ?_
  refine g_icmp_ne C dL_law_720 (tgt := 745) (by decide) (fun c5 => ?_) (fun c5 => ?_)
  · have h := g_ff c5 h
    refine g_sub [] rfl ?_
    exact wL_law_b745 C CX hr hN h
  · have h := g_tt c5 h
    refine g_sub [0, 1, 2, 3, 4, 5, 6, 7, 8, 9, 10, 11, 12, 13, 14, 15] rfl ?_
    exact wL_law_b723 C CX hr hK84 hN h

set_option maxHeartbeats 4000000 in
set_option maxRecDepth 20000 in
theorem wL_law_b692 (C : gC p room_1 s m #[Value.ref b] meth c cL_law RL 25 D g (fun q : Nat => s.heap.size ≤ q) 2048) (CX : gCP l s (fun q : Nat => s.heap.size ≤ q) b L xs) (hr : meth.sig.returnType = ret) {K84 : Nat → (Nat → Nat) → Nat → Nat → gM → Int32 → Int32 → Int32 → Int32 → Int32 → Int32 → Option (Unit)} (hK84 : ∀ {N : Nat} {ad ln : Nat → Nat} (hN : 183 ≤ N) {k n : Nat} {A : gM} {x3 : Int32} {x4 : Int32} {x5 : Int32} {x6 : Int32} {x7 : Int32} {x8 : Int32}, K84 N ln k n A x3 x4 x5 x6 x7 x8 = some () → gJ p l e room_1 s m #[Value.ref b] below meth c (lw_Z below #[Value.ref b] s) 25 D g (fun q : Nat => s.heap.size ≤ q) N ad ln A [(0, .inr (.ref b)), (1, gr 0), (3, gi x3), (4, gi x4), (5, gi x5), (6, gi x6), (7, gi x7), (8, gi x8)] k n 84 []) {N : Nat} {ad ln : Nat → Nat} (hN : 183 ≤ N) {k n : Nat} {A : gM} {x3 : Int32} {x4 : Int32} {x5 : Int32} {x6 : Int32} {x7 : Int32} {x8 : Int32} {x9 : Int32} {x10 : Int32} {x17 : Int32} {x18 : Int32} {x19 : Int32} {x21 : Int32} {x22 : Int32} {x23 : Int32} (h : mL_law_b692 xs L K84 N ln k n A x3 x4 x5 x6 x7 x8 x9 x10 x17 x18 x19 x21 x22 x23 = some ()) : gJ p l e room_1 s m #[Value.ref b] below meth c (lw_Z below #[Value.ref b] s) 25 D g (fun q : Nat => s.heap.size ≤ q) N ad ln A [(0, .inr (.ref b)), (1, gr 0), (3, gi x3), (4, gi x4), (5, gi x5), (6, gi x6), (7, gi x7), (8, gi x8), (9, gi x9), (10, gi x10), (17, gi x17), (18, gi x18), (19, gi x19), (21, gi x21), (22, gi x22), (23, gi x23)] k n 692 [] := by
  unfold mL_law_b692 at h
  refine g_aload_n C 1 dL_law_692 rfl ?_
  refine g_iload C 10 dL_law_693 rfl ?_
  refine g_iconst (v := 3) C dL_law_695 (by decide) ?_
  obtain ⟨hg2, h⟩ := g_gd h
  obtain ⟨A3, r4, eq1, h⟩ := g_cxx h
  refine g_callX C CX 0 [gi x17, gi 3] (kX5_type hN CX.1 eq1) qs_L_44 (by omega) (by omega) rfl rfl rfl rfl (Nat.le_of_ble_eq_true rfl) hg2 dL_law_696 ?_
  refine g_iload C 14 dL_law_699 rfl ?_
  refine g_aload_n C 1 dL_law_701 rfl ?_
  refine g_iload C 9 dL_law_702 rfl ?_
  refine g_iconst (v := 3) C dL_law_704 (by decide) ?_
  obtain ⟨hg6, h⟩ := g_gd h
  obtain ⟨A7, r8, eq5, h⟩ := g_cxx h
  refine g_callX C CX 0 [gi x10, gi 3] (kX5_type hN CX.1 eq5) qs_L_44 (by omega) (by omega) rfl rfl rfl rfl (Nat.le_of_ble_eq_true rfl) hg6 dL_law_705 ?_
  refine g_iadd C dL_law_708 ?_
  refine g_icmp_ne C dL_law_709 (tgt := 745) (by decide) (fun c9 => ?_) (fun c9 => ?_)
  · have h := g_ff c9 h
    refine g_sub [] rfl ?_
    exact wL_law_b745 C CX hr hN h
  · have h := g_tt c9 h
    refine g_sub [0, 1, 2, 3, 4, 5, 6, 7, 8, 9, 10, 11, 12, 13, 14, 15] rfl ?_
    exact wL_law_b712 C CX hr hK84 hN h

set_option maxHeartbeats 4000000 in
set_option maxRecDepth 20000 in
theorem wL_law_b675 (C : gC p room_1 s m #[Value.ref b] meth c cL_law RL 25 D g (fun q : Nat => s.heap.size ≤ q) 2048) (CX : gCP l s (fun q : Nat => s.heap.size ≤ q) b L xs) (hr : meth.sig.returnType = ret) {K84 : Nat → (Nat → Nat) → Nat → Nat → gM → Int32 → Int32 → Int32 → Int32 → Int32 → Int32 → Option (Unit)} (hK84 : ∀ {N : Nat} {ad ln : Nat → Nat} (hN : 183 ≤ N) {k n : Nat} {A : gM} {x3 : Int32} {x4 : Int32} {x5 : Int32} {x6 : Int32} {x7 : Int32} {x8 : Int32}, K84 N ln k n A x3 x4 x5 x6 x7 x8 = some () → gJ p l e room_1 s m #[Value.ref b] below meth c (lw_Z below #[Value.ref b] s) 25 D g (fun q : Nat => s.heap.size ≤ q) N ad ln A [(0, .inr (.ref b)), (1, gr 0), (3, gi x3), (4, gi x4), (5, gi x5), (6, gi x6), (7, gi x7), (8, gi x8)] k n 84 []) {N : Nat} {ad ln : Nat → Nat} (hN : 183 ≤ N) {k n : Nat} {A : gM} {x3 : Int32} {x4 : Int32} {x5 : Int32} {x6 : Int32} {x7 : Int32} {x8 : Int32} {x9 : Int32} {x10 : Int32} {x17 : Int32} {x18 : Int32} {x19 : Int32} {x21 : Int32} {x22 : Int32} {x23 : Int32} (h : mL_law_b675 xs L K84 N ln k n A x3 x4 x5 x6 x7 x8 x9 x10 x17 x18 x19 x21 x22 x23 = some ()) : gJ p l e room_1 s m #[Value.ref b] below meth c (lw_Z below #[Value.ref b] s) 25 D g (fun q : Nat => s.heap.size ≤ q) N ad ln A [(0, .inr (.ref b)), (1, gr 0), (3, gi x3), (4, gi x4), (5, gi x5), (6, gi x6), (7, gi x7), (8, gi x8), (9, gi x9), (10, gi x10), (17, gi x17), (18, gi x18), (19, gi x19), (21, gi x21), (22, gi x22), (23, gi x23)] k n 675 [] := by
  unfold mL_law_b675 at h
  refine g_aload_n C 1 dL_law_675 rfl ?_
  refine g_iload C 10 dL_law_676 rfl ?_
  refine g_iconst (v := 2) C dL_law_678 (by decide) ?_
  obtain ⟨hg2, h⟩ := g_gd h
  obtain ⟨A3, r4, eq1, h⟩ := g_cxx h
  refine g_callX C CX 0 [gi x17, gi 2] (kX5_type hN CX.1 eq1) qs_L_44 (by omega) (by omega) rfl rfl rfl rfl (Nat.le_of_ble_eq_true rfl) hg2 dL_law_679 ?_
  refine g_iconst (v := 1) C dL_law_682 (by decide) ?_
  refine g_iload C 13 dL_law_683 rfl ?_
  refine g_iadd C dL_law_685 ?_
  refine g_iload C 15 dL_law_686 rfl ?_
  refine g_iadd C dL_law_688 ?_
  refine g_icmp_ne C dL_law_689 (tgt := 745) (by decide) (fun c5 => ?_) (fun c5 => ?_)
  · have h := g_ff c5 h
    refine g_sub [] rfl ?_
    exact wL_law_b745 C CX hr hN h
  · have h := g_tt c5 h
    refine g_sub [0, 1, 2, 3, 4, 5, 6, 7, 8, 9, 10, 11, 12, 13, 14, 15] rfl ?_
    exact wL_law_b692 C CX hr hK84 hN h

set_option maxHeartbeats 4000000 in
set_option maxRecDepth 20000 in
theorem wL_law_b633 (C : gC p room_1 s m #[Value.ref b] meth c cL_law RL 25 D g (fun q : Nat => s.heap.size ≤ q) 2048) (CX : gCP l s (fun q : Nat => s.heap.size ≤ q) b L xs) (hr : meth.sig.returnType = ret) {K84 : Nat → (Nat → Nat) → Nat → Nat → gM → Int32 → Int32 → Int32 → Int32 → Int32 → Int32 → Option (Unit)} (hK84 : ∀ {N : Nat} {ad ln : Nat → Nat} (hN : 183 ≤ N) {k n : Nat} {A : gM} {x3 : Int32} {x4 : Int32} {x5 : Int32} {x6 : Int32} {x7 : Int32} {x8 : Int32}, K84 N ln k n A x3 x4 x5 x6 x7 x8 = some () → gJ p l e room_1 s m #[Value.ref b] below meth c (lw_Z below #[Value.ref b] s) 25 D g (fun q : Nat => s.heap.size ≤ q) N ad ln A [(0, .inr (.ref b)), (1, gr 0), (3, gi x3), (4, gi x4), (5, gi x5), (6, gi x6), (7, gi x7), (8, gi x8)] k n 84 []) {N : Nat} {ad ln : Nat → Nat} (hN : 183 ≤ N) {k n : Nat} {A : gM} {x3 : Int32} {x4 : Int32} {x5 : Int32} {x6 : Int32} {x7 : Int32} {x8 : Int32} {x9 : Int32} {x10 : Int32} {x17 : Int32} {x18 : Int32} {x19 : Int32} {x21 : Int32} {x22 : Int32} {x23 : Int32} (h : mL_law_b633 xs L K84 N ln k n A x3 x4 x5 x6 x7 x8 x9 x10 x17 x18 x19 x21 x22 x23 = some ()) : gJ p l e room_1 s m #[Value.ref b] below meth c (lw_Z below #[Value.ref b] s) 25 D g (fun q : Nat => s.heap.size ≤ q) N ad ln A [(0, .inr (.ref b)), (1, gr 0), (3, gi x3), (4, gi x4), (5, gi x5), (6, gi x6), (7, gi x7), (8, gi x8), (9, gi x9), (10, gi x10), (17, gi x17), (18, gi x18), (19, gi x19), (21, gi x21), (22, gi x22), (23, gi x23)] k n 633 [] := by
  unfold mL_law_b633 at h
  refine g_iconst (v := 1) C dL_law_633 (by decide) ?_
  refine g_iload C 13 dL_law_634 rfl ?_
  refine g_iadd C dL_law_636 ?_
  refine g_iload C 15 dL_law_637 rfl ?_
  refine g_iadd C dL_law_639 ?_
  refine g_bipush (v := 60) C dL_law_640 (by decide) ?_
  refine g_icmp_le C dL_law_642 (tgt := 675) (by decide) (fun c1 => ?_) (fun c1 => ?_)
  · have h := g_tt c1 h
    refine g_sub [0, 1, 2, 3, 4, 5, 6, 7, 8, 9, 10, 11, 12, 13, 14, 15] rfl ?_
    exact wL_law_b675 C CX hr hK84 hN h
  · have h := g_ff c1 h
    refine g_aload_n C 1 dL_law_645 rfl ?_
    refine g_iconst (v := 4) C dL_law_646 (by decide) ?_
    refine g_iload C 10 dL_law_647 rfl ?_
    refine g_iconst (v := 3) C dL_law_649 (by decide) ?_
    obtain ⟨⟨hg2a, hg2b⟩, h⟩ := g_gd h
    obtain ⟨N5, eN5, h⟩ := g_lt h
    obtain ⟨ln3, eln3, h⟩ := g_lt h
    obtain ⟨A4, eA4, h⟩ := g_lt h
    refine g_newJ C hN qa_int ⟨hg2a.2, rfl, hg2a.1⟩ hg2b ⟨(by omega), trivial⟩ ⟨(by omega), trivial⟩ dL_law_650 (fun q => ?_)
    rw [eN5, eln3, eA4]
    have hgq : ∀ i, i < N → va_up ad N q i = ad i := g_up_o
    generalize va_up ad N q = ad at hgq ⊢
    have hN : 183 ≤ N5 := by omega
    refine g_dup_r C dL_law_652 ?_
    refine g_iconst (v := 0) C dL_law_653 (by decide) ?_
    refine g_iload C 10 dL_law_654 rfl ?_
    obtain ⟨hg6, h⟩ := g_gd h
    obtain ⟨A7, eA7, h⟩ := g_lt h
    refine g_jast C N hg6 eA7 dL_law_656 ?_
    refine g_dup_r C dL_law_657 ?_
    refine g_iconst (v := 1) C dL_law_658 (by decide) ?_
    refine g_iload C 11 dL_law_659 rfl ?_
    obtain ⟨hg8, h⟩ := g_gd h
    obtain ⟨A9, eA9, h⟩ := g_lt h
    refine g_jast C N hg8 eA9 dL_law_661 ?_
    refine g_dup_r C dL_law_662 ?_
    refine g_iconst (v := 2) C dL_law_663 (by decide) ?_
    refine g_iload C 12 dL_law_664 rfl ?_
    obtain ⟨hg10, h⟩ := g_gd h
    obtain ⟨A11, eA11, h⟩ := g_lt h
    refine g_jast C N hg10 eA11 dL_law_666 ?_
    obtain ⟨hg13a, h⟩ := g_gd h
    obtain ⟨N16, ln17, A15, r14, eq12, h⟩ := g_cpx h
    obtain ⟨hg13N, h⟩ := g_gd h
    refine g_callPi C CX [gr 0, gi 4, gi x17, gr N] (kL_isFault hN CX.1 eq12) qs_L_115 (by omega) rfl rfl (Nat.le_of_ble_eq_true rfl) hg13a ⟨(by omega), trivial⟩ trivial dL_law_667 (fun ad1 hgq => ?_)
    generalize ad1 = ad at hgq ⊢
    have hN : 183 ≤ N16 := by omega
    refine g_if_ne C dL_law_670 (tgt := 848) (by decide) (fun c18 => ?_) (fun c18 => ?_)
    · have h := g_ff c18 h
      refine g_sub [0, 1, 2, 3, 4, 5, 6, 7] rfl ?_
      exact wL_law_b848 C CX hr hK84 hN h
    · have h := g_tt c18 h
      refine g_iconst (v := 0) C dL_law_673 (by decide) ?_
      cases h

set_option maxHeartbeats 4000000 in
set_option maxRecDepth 20000 in
theorem wL_law_b592 (C : gC p room_1 s m #[Value.ref b] meth c cL_law RL 25 D g (fun q : Nat => s.heap.size ≤ q) 2048) (CX : gCP l s (fun q : Nat => s.heap.size ≤ q) b L xs) (hr : meth.sig.returnType = ret) {K84 : Nat → (Nat → Nat) → Nat → Nat → gM → Int32 → Int32 → Int32 → Int32 → Int32 → Int32 → Option (Unit)} (hK84 : ∀ {N : Nat} {ad ln : Nat → Nat} (hN : 183 ≤ N) {k n : Nat} {A : gM} {x3 : Int32} {x4 : Int32} {x5 : Int32} {x6 : Int32} {x7 : Int32} {x8 : Int32}, K84 N ln k n A x3 x4 x5 x6 x7 x8 = some () → gJ p l e room_1 s m #[Value.ref b] below meth c (lw_Z below #[Value.ref b] s) 25 D g (fun q : Nat => s.heap.size ≤ q) N ad ln A [(0, .inr (.ref b)), (1, gr 0), (3, gi x3), (4, gi x4), (5, gi x5), (6, gi x6), (7, gi x7), (8, gi x8)] k n 84 []) {N : Nat} {ad ln : Nat → Nat} (hN : 183 ≤ N) {k n : Nat} {A : gM} {x3 : Int32} {x4 : Int32} {x5 : Int32} {x6 : Int32} {x7 : Int32} {x8 : Int32} {x10 : Int32} {x17 : Int32} {x18 : Int32} {x19 : Int32} (h : mL_law_b592 xs L K84 N ln k n A x3 x4 x5 x6 x7 x8 x10 x17 x18 x19 = some ()) : gJ p l e room_1 s m #[Value.ref b] below meth c (lw_Z below #[Value.ref b] s) 25 D g (fun q : Nat => s.heap.size ≤ q) N ad ln A [(0, .inr (.ref b)), (1, gr 0), (3, gi x3), (4, gi x4), (5, gi x5), (6, gi x6), (7, gi x7), (8, gi x8), (10, gi x10), (17, gi x17), (18, gi x18), (19, gi x19)] k n 592 [] := by
  unfold mL_law_b592 at h
  refine g_aload_n C 1 dL_law_592 rfl ?_
  refine g_aload_n C 1 dL_law_593 rfl ?_
  refine g_iload C 8 dL_law_594 rfl ?_
  refine g_iconst (v := 0) C dL_law_596 (by decide) ?_
  obtain ⟨hg2, h⟩ := g_gd h
  obtain ⟨A3, r4, eq1, h⟩ := g_cxx h
  refine g_callX C CX 0 [gi x10, gi 0] (kX5_type hN CX.1 eq1) qs_L_44 (by omega) (by omega) rfl rfl rfl rfl (Nat.le_of_ble_eq_true rfl) hg2 dL_law_597 ?_
  refine g_aload_n C 1 dL_law_600 rfl ?_
  refine g_iload C 8 dL_law_601 rfl ?_
  refine g_iconst (v := 1) C dL_law_603 (by decide) ?_
  obtain ⟨hg6, h⟩ := g_gd h
  obtain ⟨A7, r8, eq5, h⟩ := g_cxx h
  refine g_callX C CX 0 [gi x10, gi 1] (kX5_type hN CX.1 eq5) qs_L_44 (by omega) (by omega) rfl rfl rfl rfl (Nat.le_of_ble_eq_true rfl) hg6 dL_law_604 ?_
  refine g_iconst (v := 3) C dL_law_607 (by decide) ?_
  obtain ⟨⟨hg9a, hg9b⟩, h⟩ := g_gd h
  obtain ⟨N12, eN12, h⟩ := g_lt h
  obtain ⟨ln10, eln10, h⟩ := g_lt h
  obtain ⟨A11, eA11, h⟩ := g_lt h
  refine g_newJ C hN qa_int ⟨hg9a.2, rfl, hg9a.1⟩ hg9b ⟨(by omega), trivial⟩ ⟨(by omega), trivial⟩ dL_law_608 (fun q => ?_)
  rw [eN12, eln10, eA11]
  have hgq : ∀ i, i < N → va_up ad N q i = ad i := g_up_o
  generalize va_up ad N q = ad at hgq ⊢
  have hN : 183 ≤ N12 := by omega
  refine g_dup_r C dL_law_610 ?_
  refine g_iconst (v := 0) C dL_law_611 (by decide) ?_
  refine g_iload C 9 dL_law_612 rfl ?_
  obtain ⟨hg13, h⟩ := g_gd h
  obtain ⟨A14, eA14, h⟩ := g_lt h
  refine g_jast C N hg13 eA14 dL_law_614 ?_
  refine g_dup_r C dL_law_615 ?_
  refine g_iconst (v := 1) C dL_law_616 (by decide) ?_
  refine g_iload C 10 dL_law_617 rfl ?_
  obtain ⟨hg15, h⟩ := g_gd h
  obtain ⟨A16, eA16, h⟩ := g_lt h
  refine g_jast C N hg15 eA16 dL_law_619 ?_
  refine g_dup_r C dL_law_620 ?_
  refine g_iconst (v := 2) C dL_law_621 (by decide) ?_
  refine g_iload C 11 dL_law_622 rfl ?_
  obtain ⟨hg17, h⟩ := g_gd h
  obtain ⟨A18, eA18, h⟩ := g_lt h
  refine g_jast C N hg17 eA18 dL_law_624 ?_
  obtain ⟨hg20a, h⟩ := g_gd h
  obtain ⟨N23, ln24, A22, r21, eq19, h⟩ := g_cpx h
  obtain ⟨hg20N, h⟩ := g_gd h
  refine g_callPi C CX [gr 0, gi r4, gi r8, gr N] (kL_isFault hN CX.1 eq19) qs_L_115 (by omega) rfl rfl (Nat.le_of_ble_eq_true rfl) hg20a ⟨(by omega), trivial⟩ trivial dL_law_625 (fun ad1 hgq => ?_)
  generalize ad1 = ad at hgq ⊢
  have hN : 183 ≤ N23 := by omega
  refine g_if_ne C dL_law_628 (tgt := 848) (by decide) (fun c25 => ?_) (fun c25 => ?_)
  · have h := g_ff c25 h
    refine g_sub [0, 1, 2, 3, 4, 5, 6, 7] rfl ?_
    exact wL_law_b848 C CX hr hK84 hN h
  · have h := g_tt c25 h
    refine g_iconst (v := 0) C dL_law_631 (by decide) ?_
    cases h

set_option maxHeartbeats 4000000 in
set_option maxRecDepth 20000 in
theorem wL_law_b573 (C : gC p room_1 s m #[Value.ref b] meth c cL_law RL 25 D g (fun q : Nat => s.heap.size ≤ q) 2048) (CX : gCP l s (fun q : Nat => s.heap.size ≤ q) b L xs) (hr : meth.sig.returnType = ret) {K84 : Nat → (Nat → Nat) → Nat → Nat → gM → Int32 → Int32 → Int32 → Int32 → Int32 → Int32 → Option (Unit)} (hK84 : ∀ {N : Nat} {ad ln : Nat → Nat} (hN : 183 ≤ N) {k n : Nat} {A : gM} {x3 : Int32} {x4 : Int32} {x5 : Int32} {x6 : Int32} {x7 : Int32} {x8 : Int32}, K84 N ln k n A x3 x4 x5 x6 x7 x8 = some () → gJ p l e room_1 s m #[Value.ref b] below meth c (lw_Z below #[Value.ref b] s) 25 D g (fun q : Nat => s.heap.size ≤ q) N ad ln A [(0, .inr (.ref b)), (1, gr 0), (3, gi x3), (4, gi x4), (5, gi x5), (6, gi x6), (7, gi x7), (8, gi x8)] k n 84 []) {N : Nat} {ad ln : Nat → Nat} (hN : 183 ≤ N) {k n : Nat} {A : gM} {x3 : Int32} {x4 : Int32} {x5 : Int32} {x6 : Int32} {x7 : Int32} {x8 : Int32} {x9 : Int32} {x10 : Int32} {x17 : Int32} {x18 : Int32} {x19 : Int32} {x21 : Int32} {x22 : Int32} (h : mL_law_b573 xs L K84 N ln k n A x3 x4 x5 x6 x7 x8 x9 x10 x17 x18 x19 x21 x22 = some ()) : gJ p l e room_1 s m #[Value.ref b] below meth c (lw_Z below #[Value.ref b] s) 25 D g (fun q : Nat => s.heap.size ≤ q) N ad ln A [(0, .inr (.ref b)), (1, gr 0), (3, gi x3), (4, gi x4), (5, gi x5), (6, gi x6), (7, gi x7), (8, gi x8), (9, gi x9), (10, gi x10), (17, gi x17), (18, gi x18), (19, gi x19), (21, gi x21), (22, gi x22)] k n 573 [] := by
  unfold mL_law_b573 at h
  refine g_aload_n C 1 dL_law_573 rfl ?_
  refine g_iload C 9 dL_law_574 rfl ?_
  refine g_iconst (v := 2) C dL_law_576 (by decide) ?_
  obtain ⟨hg2, h⟩ := g_gd h
  obtain ⟨A3, r4, eq1, h⟩ := g_cxx h
  refine g_callX C CX 0 [gi x10, gi 2] (kX5_type hN CX.1 eq1) qs_L_44 (by omega) (by omega) rfl rfl rfl rfl (Nat.le_of_ble_eq_true rfl) hg2 dL_law_577 ?_
  refine g_istore C dL_law_580 (by decide) rfl ?_
  refine g_aload_n C 2 dL_law_582 rfl ?_
  refine g_iload C 10 dL_law_583 rfl ?_
  refine g_iconst (v := 0) C dL_law_585 (by decide) ?_
  obtain ⟨hg6, h⟩ := g_gd h
  obtain ⟨A7, r8, eq5, h⟩ := g_cxx h
  refine g_callX C CX 0 [gi x10, gi 0] (kX5_type hN CX.1 eq5) qs_L_44 (by omega) (by omega) rfl rfl rfl rfl (Nat.le_of_ble_eq_true rfl) hg6 dL_law_586 ?_
  refine g_if_eq C dL_law_589 (tgt := 633) (by decide) (fun c9 => ?_) (fun c9 => ?_)
  · have h := g_tt c9 h
    refine g_sub [1, 2, 3, 4, 5, 6, 7, 8, 9, 10, 11, 12, 13, 14, 15, 0] rfl ?_
    exact wL_law_b633 C CX hr hK84 hN h
  · have h := g_ff c9 h
    refine g_sub [1, 2, 3, 4, 5, 6, 7, 8, 10, 11, 12, 13] rfl ?_
    exact wL_law_b592 C CX hr hK84 hN h

set_option maxHeartbeats 4000000 in
set_option maxRecDepth 20000 in
theorem wL_law_b561 (C : gC p room_1 s m #[Value.ref b] meth c cL_law RL 25 D g (fun q : Nat => s.heap.size ≤ q) 2048) (CX : gCP l s (fun q : Nat => s.heap.size ≤ q) b L xs) (hr : meth.sig.returnType = ret) {K84 : Nat → (Nat → Nat) → Nat → Nat → gM → Int32 → Int32 → Int32 → Int32 → Int32 → Int32 → Option (Unit)} {K509 : Nat → (Nat → Nat) → Nat → Nat → gM → Int32 → Int32 → Int32 → Int32 → Int32 → Int32 → Int32 → Int32 → Int32 → Int32 → Int32 → Int32 → Int32 → Int32 → Int32 → Option (Unit)} (hK84 : ∀ {N : Nat} {ad ln : Nat → Nat} (hN : 183 ≤ N) {k n : Nat} {A : gM} {x3 : Int32} {x4 : Int32} {x5 : Int32} {x6 : Int32} {x7 : Int32} {x8 : Int32}, K84 N ln k n A x3 x4 x5 x6 x7 x8 = some () → gJ p l e room_1 s m #[Value.ref b] below meth c (lw_Z below #[Value.ref b] s) 25 D g (fun q : Nat => s.heap.size ≤ q) N ad ln A [(0, .inr (.ref b)), (1, gr 0), (3, gi x3), (4, gi x4), (5, gi x5), (6, gi x6), (7, gi x7), (8, gi x8)] k n 84 []) (hK509 : ∀ {N : Nat} {ad ln : Nat → Nat} (hN : 183 ≤ N) {k n : Nat} {A : gM} {x3 : Int32} {x4 : Int32} {x5 : Int32} {x6 : Int32} {x7 : Int32} {x8 : Int32} {x9 : Int32} {x10 : Int32} {x16 : Int32} {x17 : Int32} {x18 : Int32} {x19 : Int32} {x21 : Int32} {x22 : Int32} {x23 : Int32}, K509 N ln k n A x3 x4 x5 x6 x7 x8 x9 x10 x16 x17 x18 x19 x21 x22 x23 = some () → gJ p l e room_1 s m #[Value.ref b] below meth c (lw_Z below #[Value.ref b] s) 25 D g (fun q : Nat => s.heap.size ≤ q) N ad ln A [(0, .inr (.ref b)), (1, gr 0), (3, gi x3), (4, gi x4), (5, gi x5), (6, gi x6), (7, gi x7), (8, gi x8), (9, gi x9), (10, gi x10), (16, gi x16), (17, gi x17), (18, gi x18), (19, gi x19), (21, gi x21), (22, gi x22), (23, gi x23)] k n 509 []) {N : Nat} {ad ln : Nat → Nat} (hN : 183 ≤ N) {k n : Nat} {A : gM} {x3 : Int32} {x4 : Int32} {x5 : Int32} {x6 : Int32} {x7 : Int32} {x8 : Int32} {x9 : Int32} {x10 : Int32} {x16 : Int32} {x17 : Int32} {x18 : Int32} {x19 : Int32} {x21 : Int32} {x22 : Int32} {x23 : Int32} {s0 : Int32} {s1 : Int32} {s2 : Int32} (h : mL_law_b561 xs L K84 K509 N ln k n A x3 x4 x5 x6 x7 x8 x9 x10 x16 x17 x18 x19 x21 x22 x23 s0 s1 s2 = some ()) : gJ p l e room_1 s m #[Value.ref b] below meth c (lw_Z below #[Value.ref b] s) 25 D g (fun q : Nat => s.heap.size ≤ q) N ad ln A [(0, .inr (.ref b)), (1, gr 0), (3, gi x3), (4, gi x4), (5, gi x5), (6, gi x6), (7, gi x7), (8, gi x8), (9, gi x9), (10, gi x10), (16, gi x16), (17, gi x17), (18, gi x18), (19, gi x19), (21, gi x21), (22, gi x22), (23, gi x23)] k n 561 [gi s2, gi s1, gi s0] := by
  unfold mL_law_b561 at h
  refine g_iadd C dL_law_561 ?_
  refine g_icmp_eq C dL_law_562 (tgt := 567) (by decide) (fun c1 => ?_) (fun c1 => ?_)
  · have h := g_tt c1 h
    obtain ⟨v2, ev2, h⟩ := g_lt h
    refine g_iinc C 16 dL_law_567 rfl ev2 (by decide) rfl ?_
    refine g_goto C dL_law_570 (tgt := 509) (by decide) ?_
    refine g_sub [1, 2, 3, 4, 5, 6, 7, 8, 9, 10, 11, 12, 13, 14, 15, 16, 0] rfl ?_
    exact hK509 hN h
  · have h := g_ff c1 h
    refine g_iconst (v := 0) C dL_law_565 (by decide) ?_
    cases h

set_option maxHeartbeats 4000000 in
set_option maxRecDepth 20000 in
theorem wL_law_b525 (C : gC p room_1 s m #[Value.ref b] meth c cL_law RL 25 D g (fun q : Nat => s.heap.size ≤ q) 2048) (CX : gCP l s (fun q : Nat => s.heap.size ≤ q) b L xs) (hr : meth.sig.returnType = ret) {K84 : Nat → (Nat → Nat) → Nat → Nat → gM → Int32 → Int32 → Int32 → Int32 → Int32 → Int32 → Option (Unit)} {K509 : Nat → (Nat → Nat) → Nat → Nat → gM → Int32 → Int32 → Int32 → Int32 → Int32 → Int32 → Int32 → Int32 → Int32 → Int32 → Int32 → Int32 → Int32 → Int32 → Int32 → Option (Unit)} (hK84 : ∀ {N : Nat} {ad ln : Nat → Nat} (hN : 183 ≤ N) {k n : Nat} {A : gM} {x3 : Int32} {x4 : Int32} {x5 : Int32} {x6 : Int32} {x7 : Int32} {x8 : Int32}, K84 N ln k n A x3 x4 x5 x6 x7 x8 = some () → gJ p l e room_1 s m #[Value.ref b] below meth c (lw_Z below #[Value.ref b] s) 25 D g (fun q : Nat => s.heap.size ≤ q) N ad ln A [(0, .inr (.ref b)), (1, gr 0), (3, gi x3), (4, gi x4), (5, gi x5), (6, gi x6), (7, gi x7), (8, gi x8)] k n 84 []) (hK509 : ∀ {N : Nat} {ad ln : Nat → Nat} (hN : 183 ≤ N) {k n : Nat} {A : gM} {x3 : Int32} {x4 : Int32} {x5 : Int32} {x6 : Int32} {x7 : Int32} {x8 : Int32} {x9 : Int32} {x10 : Int32} {x16 : Int32} {x17 : Int32} {x18 : Int32} {x19 : Int32} {x21 : Int32} {x22 : Int32} {x23 : Int32}, K509 N ln k n A x3 x4 x5 x6 x7 x8 x9 x10 x16 x17 x18 x19 x21 x22 x23 = some () → gJ p l e room_1 s m #[Value.ref b] below meth c (lw_Z below #[Value.ref b] s) 25 D g (fun q : Nat => s.heap.size ≤ q) N ad ln A [(0, .inr (.ref b)), (1, gr 0), (3, gi x3), (4, gi x4), (5, gi x5), (6, gi x6), (7, gi x7), (8, gi x8), (9, gi x9), (10, gi x10), (16, gi x16), (17, gi x17), (18, gi x18), (19, gi x19), (21, gi x21), (22, gi x22), (23, gi x23)] k n 509 []) {N : Nat} {ad ln : Nat → Nat} (hN : 183 ≤ N) {k n : Nat} {A : gM} {x3 : Int32} {x4 : Int32} {x5 : Int32} {x6 : Int32} {x7 : Int32} {x8 : Int32} {x9 : Int32} {x10 : Int32} {x16 : Int32} {x17 : Int32} {x18 : Int32} {x19 : Int32} {x21 : Int32} {x22 : Int32} {x23 : Int32} (h : mL_law_b525 xs L K84 K509 N ln k n A x3 x4 x5 x6 x7 x8 x9 x10 x16 x17 x18 x19 x21 x22 x23 = some ()) : gJ p l e room_1 s m #[Value.ref b] below meth c (lw_Z below #[Value.ref b] s) 25 D g (fun q : Nat => s.heap.size ≤ q) N ad ln A [(0, .inr (.ref b)), (1, gr 0), (3, gi x3), (4, gi x4), (5, gi x5), (6, gi x6), (7, gi x7), (8, gi x8), (9, gi x9), (10, gi x10), (16, gi x16), (17, gi x17), (18, gi x18), (19, gi x19), (21, gi x21), (22, gi x22), (23, gi x23)] k n 525 [] := by
  unfold mL_law_b525 at h
  refine g_aload_n C 1 dL_law_525 rfl ?_
  refine g_iload C 10 dL_law_526 rfl ?_
  refine g_iload C 16 dL_law_528 rfl ?_
  refine g_iconst (v := 2) C dL_law_530 (by decide) ?_
  refine g_iadd C dL_law_531 ?_
  obtain ⟨hg2, h⟩ := g_gd h
  obtain ⟨A3, r4, eq1, h⟩ := g_cxx h
  refine g_callX C CX 0 [gi x16, gi (x23 + 2)] (kX5_code hN CX.1 eq1) qs_L_49 (by omega) (by omega) rfl rfl rfl rfl (Nat.le_of_ble_eq_true rfl) hg2 dL_law_532 ?_
  refine g_aload_n C 1 dL_law_535 rfl ?_
  refine g_iload C 8 dL_law_536 rfl ?_
  refine g_iload C 16 dL_law_538 rfl ?_
  obtain ⟨hg6, h⟩ := g_gd h
  obtain ⟨A7, r8, eq5, h⟩ := g_cxx h
  refine g_callX C CX 0 [gi x9, gi x23] (kX5_code hN CX.1 eq5) qs_L_49 (by omega) (by omega) rfl rfl rfl rfl (Nat.le_of_ble_eq_true rfl) hg6 dL_law_540 ?_
  refine g_aload_n C 1 dL_law_543 rfl ?_
  refine g_iload C 8 dL_law_544 rfl ?_
  refine g_iload C 16 dL_law_546 rfl ?_
  obtain ⟨hg10, h⟩ := g_gd h
  obtain ⟨A11, r12, eq9, h⟩ := g_cxx h
  refine g_callX C CX 0 [gi x9, gi x23] (kX5_code hN CX.1 eq9) qs_L_49 (by omega) (by omega) rfl rfl rfl rfl (Nat.le_of_ble_eq_true rfl) hg10 dL_law_548 ?_
  refine g_bipush (v := 9) C dL_law_551 (by decide) ?_
  refine g_icmp_le C dL_law_553 (tgt := 560) (by decide) (fun c13 => ?_) (fun c13 => ?_)
  · have h := g_tt c13 h
    refine g_iconst (v := 0) C dL_law_560 (by decide) ?_
    refine g_sub [0, 1, 2, 3, 4, 5, 6, 7, 8, 9, 10, 11, 12, 13, 14, 15, 16] rfl ?_
    exact wL_law_b561 C CX hr hK84 hK509 hN h
  · have h := g_ff c13 h
    refine g_iconst (v := 1) C dL_law_556 (by decide) ?_
    refine g_goto C dL_law_557 (tgt := 561) (by decide) ?_
    refine g_sub [0, 1, 2, 3, 4, 5, 6, 7, 8, 9, 10, 11, 12, 13, 14, 15, 16] rfl ?_
    exact wL_law_b561 C CX hr hK84 hK509 hN h

set_option maxHeartbeats 4000000 in
set_option maxRecDepth 20000 in
theorem wL_law_b509 (C : gC p room_1 s m #[Value.ref b] meth c cL_law RL 25 D g (fun q : Nat => s.heap.size ≤ q) 2048) (CX : gCP l s (fun q : Nat => s.heap.size ≤ q) b L xs) (hr : meth.sig.returnType = ret) {K84 : Nat → (Nat → Nat) → Nat → Nat → gM → Int32 → Int32 → Int32 → Int32 → Int32 → Int32 → Option (Unit)} {K509 : Nat → (Nat → Nat) → Nat → Nat → gM → Int32 → Int32 → Int32 → Int32 → Int32 → Int32 → Int32 → Int32 → Int32 → Int32 → Int32 → Int32 → Int32 → Int32 → Int32 → Option (Unit)} (hK84 : ∀ {N : Nat} {ad ln : Nat → Nat} (hN : 183 ≤ N) {k n : Nat} {A : gM} {x3 : Int32} {x4 : Int32} {x5 : Int32} {x6 : Int32} {x7 : Int32} {x8 : Int32}, K84 N ln k n A x3 x4 x5 x6 x7 x8 = some () → gJ p l e room_1 s m #[Value.ref b] below meth c (lw_Z below #[Value.ref b] s) 25 D g (fun q : Nat => s.heap.size ≤ q) N ad ln A [(0, .inr (.ref b)), (1, gr 0), (3, gi x3), (4, gi x4), (5, gi x5), (6, gi x6), (7, gi x7), (8, gi x8)] k n 84 []) (hK509 : ∀ {N : Nat} {ad ln : Nat → Nat} (hN : 183 ≤ N) {k n : Nat} {A : gM} {x3 : Int32} {x4 : Int32} {x5 : Int32} {x6 : Int32} {x7 : Int32} {x8 : Int32} {x9 : Int32} {x10 : Int32} {x16 : Int32} {x17 : Int32} {x18 : Int32} {x19 : Int32} {x21 : Int32} {x22 : Int32} {x23 : Int32}, K509 N ln k n A x3 x4 x5 x6 x7 x8 x9 x10 x16 x17 x18 x19 x21 x22 x23 = some () → gJ p l e room_1 s m #[Value.ref b] below meth c (lw_Z below #[Value.ref b] s) 25 D g (fun q : Nat => s.heap.size ≤ q) N ad ln A [(0, .inr (.ref b)), (1, gr 0), (3, gi x3), (4, gi x4), (5, gi x5), (6, gi x6), (7, gi x7), (8, gi x8), (9, gi x9), (10, gi x10), (16, gi x16), (17, gi x17), (18, gi x18), (19, gi x19), (21, gi x21), (22, gi x22), (23, gi x23)] k n 509 []) {N : Nat} {ad ln : Nat → Nat} (hN : 183 ≤ N) {k n : Nat} {A : gM} {x3 : Int32} {x4 : Int32} {x5 : Int32} {x6 : Int32} {x7 : Int32} {x8 : Int32} {x9 : Int32} {x10 : Int32} {x16 : Int32} {x17 : Int32} {x18 : Int32} {x19 : Int32} {x21 : Int32} {x22 : Int32} {x23 : Int32} (h : mL_law_b509 xs L K84 K509 N ln k n A x3 x4 x5 x6 x7 x8 x9 x10 x16 x17 x18 x19 x21 x22 x23 = some ()) : gJ p l e room_1 s m #[Value.ref b] below meth c (lw_Z below #[Value.ref b] s) 25 D g (fun q : Nat => s.heap.size ≤ q) N ad ln A [(0, .inr (.ref b)), (1, gr 0), (3, gi x3), (4, gi x4), (5, gi x5), (6, gi x6), (7, gi x7), (8, gi x8), (9, gi x9), (10, gi x10), (16, gi x16), (17, gi x17), (18, gi x18), (19, gi x19), (21, gi x21), (22, gi x22), (23, gi x23)] k n 509 [] := by
  unfold mL_law_b509 at h
  refine g_iload C 16 dL_law_509 rfl ?_
  refine g_iload C 14 dL_law_511 rfl ?_
  refine g_icmp_ge C dL_law_513 (tgt := 573) (by decide) (fun c1 => ?_) (fun c1 => ?_)
  · have h := g_tt c1 h
    refine g_sub [0, 1, 2, 3, 4, 5, 6, 7, 8, 9, 11, 12, 13, 14, 15] rfl ?_
    exact wL_law_b573 C CX hr hK84 hN h
  · have h := g_ff c1 h
    refine g_iload C 14 dL_law_516 rfl ?_
    refine g_iconst (v := 2) C dL_law_518 (by decide) ?_
    refine g_iadd C dL_law_519 ?_
    refine g_bipush (v := 60) C dL_law_520 (by decide) ?_
    refine g_icmp_gt C dL_law_522 (tgt := 573) (by decide) (fun c2 => ?_) (fun c2 => ?_)
    · have h := g_tt c2 h
      refine g_sub [0, 1, 2, 3, 4, 5, 6, 7, 8, 9, 11, 12, 13, 14, 15] rfl ?_
      exact wL_law_b573 C CX hr hK84 hN h
    · have h := g_ff c2 h
      refine g_sub [0, 1, 2, 3, 4, 5, 6, 7, 8, 9, 10, 11, 12, 13, 14, 15, 16] rfl ?_
      exact wL_law_b525 C CX hr hK84 hK509 hN h

set_option maxHeartbeats 4000000 in
set_option maxRecDepth 20000 in
theorem wL_law_L509 (C : gC p room_1 s m #[Value.ref b] meth c cL_law RL 25 D g (fun q : Nat => s.heap.size ≤ q) 2048) (CX : gCP l s (fun q : Nat => s.heap.size ≤ q) b L xs) (hr : meth.sig.returnType = ret) {K84 : Nat → (Nat → Nat) → Nat → Nat → gM → Int32 → Int32 → Int32 → Int32 → Int32 → Int32 → Option (Unit)} (hK84 : ∀ {N : Nat} {ad ln : Nat → Nat} (hN : 183 ≤ N) {k n : Nat} {A : gM} {x3 : Int32} {x4 : Int32} {x5 : Int32} {x6 : Int32} {x7 : Int32} {x8 : Int32}, K84 N ln k n A x3 x4 x5 x6 x7 x8 = some () → gJ p l e room_1 s m #[Value.ref b] below meth c (lw_Z below #[Value.ref b] s) 25 D g (fun q : Nat => s.heap.size ≤ q) N ad ln A [(0, .inr (.ref b)), (1, gr 0), (3, gi x3), (4, gi x4), (5, gi x5), (6, gi x6), (7, gi x7), (8, gi x8)] k n 84 []) : ∀ (f : Nat) {N : Nat} {ad ln : Nat → Nat} (hN : 183 ≤ N) {k n : Nat} {A : gM} {x3 : Int32} {x4 : Int32} {x5 : Int32} {x6 : Int32} {x7 : Int32} {x8 : Int32} {x9 : Int32} {x10 : Int32} {x16 : Int32} {x17 : Int32} {x18 : Int32} {x19 : Int32} {x21 : Int32} {x22 : Int32} {x23 : Int32}, mL_law_L509 xs L K84 f N ln k n A x3 x4 x5 x6 x7 x8 x9 x10 x16 x17 x18 x19 x21 x22 x23 = some () → gJ p l e room_1 s m #[Value.ref b] below meth c (lw_Z below #[Value.ref b] s) 25 D g (fun q : Nat => s.heap.size ≤ q) N ad ln A [(0, .inr (.ref b)), (1, gr 0), (3, gi x3), (4, gi x4), (5, gi x5), (6, gi x6), (7, gi x7), (8, gi x8), (9, gi x9), (10, gi x10), (16, gi x16), (17, gi x17), (18, gi x18), (19, gi x19), (21, gi x21), (22, gi x22), (23, gi x23)] k n 509 []
  | 0, N, ad, ln, hN, k, n, A, x3, x4, x5, x6, x7, x8, x9, x10, x16, x17, x18, x19, x21, x22, x23, h => by cases h
  | f + 1, N, ad, ln, hN, k, n, A, x3, x4, x5, x6, x7, x8, x9, x10, x16, x17, x18, x19, x21, x22, x23, h => wL_law_b509 C CX hr hK84 (fun hN _ _ _ _ _ _ _ _ _ _ _ _ _ _ _ _ _ _ h => wL_law_L509 C CX hr hK84 f hN h) hN h
set_option maxHeartbeats 4000000 in
set_option maxRecDepth 20000 in
theorem wL_law_b506 (C : gC p room_1 s m #[Value.ref b] meth c cL_law RL 25 D g (fun q : Nat => s.heap.size ≤ q) 2048) (CX : gCP l s (fun q : Nat => s.heap.size ≤ q) b L xs) (hr : meth.sig.returnType = ret) {K84 : Nat → (Nat → Nat) → Nat → Nat → gM → Int32 → Int32 → Int32 → Int32 → Int32 → Int32 → Option (Unit)} (hK84 : ∀ {N : Nat} {ad ln : Nat → Nat} (hN : 183 ≤ N) {k n : Nat} {A : gM} {x3 : Int32} {x4 : Int32} {x5 : Int32} {x6 : Int32} {x7 : Int32} {x8 : Int32}, K84 N ln k n A x3 x4 x5 x6 x7 x8 = some () → gJ p l e room_1 s m #[Value.ref b] below meth c (lw_Z below #[Value.ref b] s) 25 D g (fun q : Nat => s.heap.size ≤ q) N ad ln A [(0, .inr (.ref b)), (1, gr 0), (3, gi x3), (4, gi x4), (5, gi x5), (6, gi x6), (7, gi x7), (8, gi x8)] k n 84 []) {N : Nat} {ad ln : Nat → Nat} (hN : 183 ≤ N) {k n : Nat} {A : gM} {x3 : Int32} {x4 : Int32} {x5 : Int32} {x6 : Int32} {x7 : Int32} {x8 : Int32} {x9 : Int32} {x10 : Int32} {x16 : Int32} {x17 : Int32} {x18 : Int32} {x19 : Int32} {x21 : Int32} {x22 : Int32} (h : mL_law_b506 xs L K84 N ln k n A x3 x4 x5 x6 x7 x8 x9 x10 x16 x17 x18 x19 x21 x22 = some ()) : gJ p l e room_1 s m #[Value.ref b] below meth c (lw_Z below #[Value.ref b] s) 25 D g (fun q : Nat => s.heap.size ≤ q) N ad ln A [(0, .inr (.ref b)), (1, gr 0), (3, gi x3), (4, gi x4), (5, gi x5), (6, gi x6), (7, gi x7), (8, gi x8), (9, gi x9), (10, gi x10), (16, gi x16), (17, gi x17), (18, gi x18), (19, gi x19), (21, gi x21), (22, gi x22)] k n 506 [] := by
  unfold mL_law_b506 at h
  refine g_iconst (v := 0) C dL_law_506 (by decide) ?_
  refine g_istore C dL_law_507 (by decide) rfl ?_
  refine g_sub [1, 2, 3, 4, 5, 6, 7, 8, 9, 10, 11, 12, 13, 14, 15, 16, 0] rfl ?_
  exact wL_law_L509 C CX hr hK84 gF hN h

set_option maxHeartbeats 4000000 in
set_option maxRecDepth 20000 in
theorem wL_law_b481 (C : gC p room_1 s m #[Value.ref b] meth c cL_law RL 25 D g (fun q : Nat => s.heap.size ≤ q) 2048) (CX : gCP l s (fun q : Nat => s.heap.size ≤ q) b L xs) (hr : meth.sig.returnType = ret) {K84 : Nat → (Nat → Nat) → Nat → Nat → gM → Int32 → Int32 → Int32 → Int32 → Int32 → Int32 → Option (Unit)} (hK84 : ∀ {N : Nat} {ad ln : Nat → Nat} (hN : 183 ≤ N) {k n : Nat} {A : gM} {x3 : Int32} {x4 : Int32} {x5 : Int32} {x6 : Int32} {x7 : Int32} {x8 : Int32}, K84 N ln k n A x3 x4 x5 x6 x7 x8 = some () → gJ p l e room_1 s m #[Value.ref b] below meth c (lw_Z below #[Value.ref b] s) 25 D g (fun q : Nat => s.heap.size ≤ q) N ad ln A [(0, .inr (.ref b)), (1, gr 0), (3, gi x3), (4, gi x4), (5, gi x5), (6, gi x6), (7, gi x7), (8, gi x8)] k n 84 []) {N : Nat} {ad ln : Nat → Nat} (hN : 183 ≤ N) {k n : Nat} {A : gM} {x3 : Int32} {x4 : Int32} {x5 : Int32} {x6 : Int32} {x7 : Int32} {x8 : Int32} {x9 : Int32} {x10 : Int32} {x16 : Int32} {x17 : Int32} {x18 : Int32} {x19 : Int32} {x21 : Int32} {x22 : Int32} (h : mL_law_b481 xs L K84 N ln k n A x3 x4 x5 x6 x7 x8 x9 x10 x16 x17 x18 x19 x21 x22 = some ()) : gJ p l e room_1 s m #[Value.ref b] below meth c (lw_Z below #[Value.ref b] s) 25 D g (fun q : Nat => s.heap.size ≤ q) N ad ln A [(0, .inr (.ref b)), (1, gr 0), (3, gi x3), (4, gi x4), (5, gi x5), (6, gi x6), (7, gi x7), (8, gi x8), (9, gi x9), (10, gi x10), (16, gi x16), (17, gi x17), (18, gi x18), (19, gi x19), (21, gi x21), (22, gi x22)] k n 481 [] := by
  unfold mL_law_b481 at h
  refine g_aload_n C 1 dL_law_481 rfl ?_
  refine g_iload C 10 dL_law_482 rfl ?_
  refine g_iconst (v := 0) C dL_law_484 (by decide) ?_
  obtain ⟨hg2, h⟩ := g_gd h
  obtain ⟨A3, r4, eq1, h⟩ := g_cxx h
  refine g_callX C CX 0 [gi x16, gi 0] (kX5_code hN CX.1 eq1) qs_L_49 (by omega) (by omega) rfl rfl rfl rfl (Nat.le_of_ble_eq_true rfl) hg2 dL_law_485 ?_
  refine g_iconst (v := 2) C dL_law_488 (by decide) ?_
  refine g_icmp_ne C dL_law_489 (tgt := 504) (by decide) (fun c5 => ?_) (fun c5 => ?_)
  · have h := g_ff c5 h
    refine g_sub [] rfl ?_
    exact wL_law_b504 C CX hr hN h
  · have h := g_tt c5 h
    refine g_aload_n C 1 dL_law_492 rfl ?_
    refine g_iload C 10 dL_law_493 rfl ?_
    refine g_iconst (v := 1) C dL_law_495 (by decide) ?_
    obtain ⟨hg7, h⟩ := g_gd h
    obtain ⟨A8, r9, eq6, h⟩ := g_cxx h
    refine g_callX C CX 0 [gi x16, gi 1] (kX5_code hN CX.1 eq6) qs_L_49 (by omega) (by omega) rfl rfl rfl rfl (Nat.le_of_ble_eq_true rfl) hg7 dL_law_496 ?_
    refine g_bipush (v := 10) C dL_law_499 (by decide) ?_
    refine g_icmp_eq C dL_law_501 (tgt := 506) (by decide) (fun c10 => ?_) (fun c10 => ?_)
    · have h := g_tt c10 h
      refine g_sub [0, 1, 2, 3, 4, 5, 6, 7, 8, 9, 10, 11, 12, 13, 14, 15] rfl ?_
      exact wL_law_b506 C CX hr hK84 hN h
    · have h := g_ff c10 h
      refine g_sub [] rfl ?_
      exact wL_law_b504 C CX hr hN h

set_option maxHeartbeats 4000000 in
set_option maxRecDepth 20000 in
theorem wL_law_b467 (C : gC p room_1 s m #[Value.ref b] meth c cL_law RL 25 D g (fun q : Nat => s.heap.size ≤ q) 2048) (CX : gCP l s (fun q : Nat => s.heap.size ≤ q) b L xs) (hr : meth.sig.returnType = ret) {K84 : Nat → (Nat → Nat) → Nat → Nat → gM → Int32 → Int32 → Int32 → Int32 → Int32 → Int32 → Option (Unit)} (hK84 : ∀ {N : Nat} {ad ln : Nat → Nat} (hN : 183 ≤ N) {k n : Nat} {A : gM} {x3 : Int32} {x4 : Int32} {x5 : Int32} {x6 : Int32} {x7 : Int32} {x8 : Int32}, K84 N ln k n A x3 x4 x5 x6 x7 x8 = some () → gJ p l e room_1 s m #[Value.ref b] below meth c (lw_Z below #[Value.ref b] s) 25 D g (fun q : Nat => s.heap.size ≤ q) N ad ln A [(0, .inr (.ref b)), (1, gr 0), (3, gi x3), (4, gi x4), (5, gi x5), (6, gi x6), (7, gi x7), (8, gi x8)] k n 84 []) {N : Nat} {ad ln : Nat → Nat} (hN : 183 ≤ N) {k n : Nat} {A : gM} {x3 : Int32} {x4 : Int32} {x5 : Int32} {x6 : Int32} {x7 : Int32} {x8 : Int32} {x9 : Int32} {x10 : Int32} {x16 : Int32} {x17 : Int32} {x18 : Int32} {x19 : Int32} {x21 : Int32} {x22 : Int32} (h : mL_law_b467 xs L K84 N ln k n A x3 x4 x5 x6 x7 x8 x9 x10 x16 x17 x18 x19 x21 x22 = some ()) : gJ p l e room_1 s m #[Value.ref b] below meth c (lw_Z below #[Value.ref b] s) 25 D g (fun q : Nat => s.heap.size ≤ q) N ad ln A [(0, .inr (.ref b)), (1, gr 0), (3, gi x3), (4, gi x4), (5, gi x5), (6, gi x6), (7, gi x7), (8, gi x8), (9, gi x9), (10, gi x10), (16, gi x16), (17, gi x17), (18, gi x18), (19, gi x19), (21, gi x21), (22, gi x22)] k n 467 [] := by
  unfold mL_law_b467 at h
  refine g_aload_n C 1 dL_law_467 rfl ?_
  refine g_iload C 10 dL_law_468 rfl ?_
  refine g_iconst (v := 3) C dL_law_470 (by decide) ?_
  obtain ⟨hg2, h⟩ := g_gd h
  obtain ⟨A3, r4, eq1, h⟩ := g_cxx h
  refine g_callX C CX 0 [gi x16, gi 3] (kX5_type hN CX.1 eq1) qs_L_44 (by omega) (by omega) rfl rfl rfl rfl (Nat.le_of_ble_eq_true rfl) hg2 dL_law_471 ?_
  refine g_iload C 15 dL_law_474 rfl ?_
  refine g_iconst (v := 1) C dL_law_476 (by decide) ?_
  refine g_iadd C dL_law_477 ?_
  refine g_icmp_ne C dL_law_478 (tgt := 504) (by decide) (fun c5 => ?_) (fun c5 => ?_)
  · have h := g_ff c5 h
    refine g_sub [] rfl ?_
    exact wL_law_b504 C CX hr hN h
  · have h := g_tt c5 h
    refine g_sub [0, 1, 2, 3, 4, 5, 6, 7, 8, 9, 10, 11, 12, 13, 14, 15] rfl ?_
    exact wL_law_b481 C CX hr hK84 hN h

set_option maxHeartbeats 4000000 in
set_option maxRecDepth 20000 in
theorem wL_law_b453 (C : gC p room_1 s m #[Value.ref b] meth c cL_law RL 25 D g (fun q : Nat => s.heap.size ≤ q) 2048) (CX : gCP l s (fun q : Nat => s.heap.size ≤ q) b L xs) (hr : meth.sig.returnType = ret) {K84 : Nat → (Nat → Nat) → Nat → Nat → gM → Int32 → Int32 → Int32 → Int32 → Int32 → Int32 → Option (Unit)} (hK84 : ∀ {N : Nat} {ad ln : Nat → Nat} (hN : 183 ≤ N) {k n : Nat} {A : gM} {x3 : Int32} {x4 : Int32} {x5 : Int32} {x6 : Int32} {x7 : Int32} {x8 : Int32}, K84 N ln k n A x3 x4 x5 x6 x7 x8 = some () → gJ p l e room_1 s m #[Value.ref b] below meth c (lw_Z below #[Value.ref b] s) 25 D g (fun q : Nat => s.heap.size ≤ q) N ad ln A [(0, .inr (.ref b)), (1, gr 0), (3, gi x3), (4, gi x4), (5, gi x5), (6, gi x6), (7, gi x7), (8, gi x8)] k n 84 []) {N : Nat} {ad ln : Nat → Nat} (hN : 183 ≤ N) {k n : Nat} {A : gM} {x3 : Int32} {x4 : Int32} {x5 : Int32} {x6 : Int32} {x7 : Int32} {x8 : Int32} {x9 : Int32} {x10 : Int32} {x16 : Int32} {x17 : Int32} {x18 : Int32} {x19 : Int32} {x21 : Int32} {x22 : Int32} (h : mL_law_b453 xs L K84 N ln k n A x3 x4 x5 x6 x7 x8 x9 x10 x16 x17 x18 x19 x21 x22 = some ()) : gJ p l e room_1 s m #[Value.ref b] below meth c (lw_Z below #[Value.ref b] s) 25 D g (fun q : Nat => s.heap.size ≤ q) N ad ln A [(0, .inr (.ref b)), (1, gr 0), (3, gi x3), (4, gi x4), (5, gi x5), (6, gi x6), (7, gi x7), (8, gi x8), (9, gi x9), (10, gi x10), (16, gi x16), (17, gi x17), (18, gi x18), (19, gi x19), (21, gi x21), (22, gi x22)] k n 453 [] := by
  unfold mL_law_b453 at h
  refine g_aload_n C 1 dL_law_453 rfl ?_
  refine g_iload C 10 dL_law_454 rfl ?_
  refine g_iconst (v := 2) C dL_law_456 (by decide) ?_
  obtain ⟨hg2, h⟩ := g_gd h
  obtain ⟨A3, r4, eq1, h⟩ := g_cxx h
  refine g_callX C CX 0 [gi x16, gi 2] (kX5_type hN CX.1 eq1) qs_L_44 (by omega) (by omega) rfl rfl rfl rfl (Nat.le_of_ble_eq_true rfl) hg2 dL_law_457 ?_
  refine g_iload C 14 dL_law_460 rfl ?_
  refine g_iconst (v := 2) C dL_law_462 (by decide) ?_
  refine g_iadd C dL_law_463 ?_
  refine g_icmp_ne C dL_law_464 (tgt := 504) (by decide) (fun c5 => ?_) (fun c5 => ?_)
  · have h := g_ff c5 h
    refine g_sub [] rfl ?_
    exact wL_law_b504 C CX hr hN h
  · have h := g_tt c5 h
    refine g_sub [0, 1, 2, 3, 4, 5, 6, 7, 8, 9, 10, 11, 12, 13, 14, 15] rfl ?_
    exact wL_law_b467 C CX hr hK84 hN h

set_option maxHeartbeats 4000000 in
set_option maxRecDepth 20000 in
theorem wL_law_b427 (C : gC p room_1 s m #[Value.ref b] meth c cL_law RL 25 D g (fun q : Nat => s.heap.size ≤ q) 2048) (CX : gCP l s (fun q : Nat => s.heap.size ≤ q) b L xs) (hr : meth.sig.returnType = ret) {K84 : Nat → (Nat → Nat) → Nat → Nat → gM → Int32 → Int32 → Int32 → Int32 → Int32 → Int32 → Option (Unit)} (hK84 : ∀ {N : Nat} {ad ln : Nat → Nat} (hN : 183 ≤ N) {k n : Nat} {A : gM} {x3 : Int32} {x4 : Int32} {x5 : Int32} {x6 : Int32} {x7 : Int32} {x8 : Int32}, K84 N ln k n A x3 x4 x5 x6 x7 x8 = some () → gJ p l e room_1 s m #[Value.ref b] below meth c (lw_Z below #[Value.ref b] s) 25 D g (fun q : Nat => s.heap.size ≤ q) N ad ln A [(0, .inr (.ref b)), (1, gr 0), (3, gi x3), (4, gi x4), (5, gi x5), (6, gi x6), (7, gi x7), (8, gi x8)] k n 84 []) {N : Nat} {ad ln : Nat → Nat} (hN : 183 ≤ N) {k n : Nat} {A : gM} {x3 : Int32} {x4 : Int32} {x5 : Int32} {x6 : Int32} {x7 : Int32} {x8 : Int32} {x9 : Int32} {x10 : Int32} {x16 : Int32} {x17 : Int32} {x18 : Int32} {x19 : Int32} {x21 : Int32} {x22 : Int32} (h : mL_law_b427 xs L K84 N ln k n A x3 x4 x5 x6 x7 x8 x9 x10 x16 x17 x18 x19 x21 x22 = some ()) : gJ p l e room_1 s m #[Value.ref b] below meth c (lw_Z below #[Value.ref b] s) 25 D g (fun q : Nat => s.heap.size ≤ q) N ad ln A [(0, .inr (.ref b)), (1, gr 0), (3, gi x3), (4, gi x4), (5, gi x5), (6, gi x6), (7, gi x7), (8, gi x8), (9, gi x9), (10, gi x10), (16, gi x16), (17, gi x17), (18, gi x18), (19, gi x19), (21, gi x21), (22, gi x22)] k n 427 [] := by
  unfold mL_law_b427 at h
  refine g_aload_n C 1 dL_law_427 rfl ?_
  refine g_iload C 10 dL_law_428 rfl ?_
  refine g_iconst (v := 0) C dL_law_430 (by decide) ?_
  obtain ⟨hg2, h⟩ := g_gd h
  obtain ⟨A3, r4, eq1, h⟩ := g_cxx h
  refine g_callX C CX 0 [gi x16, gi 0] (kX5_type hN CX.1 eq1) qs_L_44 (by omega) (by omega) rfl rfl rfl rfl (Nat.le_of_ble_eq_true rfl) hg2 dL_law_431 ?_
  refine g_iconst (v := 4) C dL_law_434 (by decide) ?_
  refine g_icmp_ne C dL_law_435 (tgt := 504) (by decide) (fun c5 => ?_) (fun c5 => ?_)
  · have h := g_ff c5 h
    refine g_sub [] rfl ?_
    exact wL_law_b504 C CX hr hN h
  · have h := g_tt c5 h
    refine g_aload_n C 1 dL_law_438 rfl ?_
    refine g_iload C 10 dL_law_439 rfl ?_
    refine g_iconst (v := 1) C dL_law_441 (by decide) ?_
    obtain ⟨hg7, h⟩ := g_gd h
    obtain ⟨A8, r9, eq6, h⟩ := g_cxx h
    refine g_callX C CX 0 [gi x16, gi 1] (kX5_type hN CX.1 eq6) qs_L_44 (by omega) (by omega) rfl rfl rfl rfl (Nat.le_of_ble_eq_true rfl) hg7 dL_law_442 ?_
    refine g_iload C 10 dL_law_445 rfl ?_
    refine g_icmp_eq C dL_law_447 (tgt := 506) (by decide) (fun c10 => ?_) (fun c10 => ?_)
    · have h := g_tt c10 h
      refine g_sub [0, 1, 2, 3, 4, 5, 6, 7, 8, 9, 10, 11, 12, 13, 14, 15] rfl ?_
      exact wL_law_b506 C CX hr hK84 hN h
    · have h := g_ff c10 h
      refine g_goto C dL_law_450 (tgt := 504) (by decide) ?_
      refine g_sub [] rfl ?_
      exact wL_law_b504 C CX hr hN h

set_option maxHeartbeats 4000000 in
set_option maxRecDepth 20000 in
theorem wL_law_b418 (C : gC p room_1 s m #[Value.ref b] meth c cL_law RL 25 D g (fun q : Nat => s.heap.size ≤ q) 2048) (CX : gCP l s (fun q : Nat => s.heap.size ≤ q) b L xs) (hr : meth.sig.returnType = ret) {K84 : Nat → (Nat → Nat) → Nat → Nat → gM → Int32 → Int32 → Int32 → Int32 → Int32 → Int32 → Option (Unit)} (hK84 : ∀ {N : Nat} {ad ln : Nat → Nat} (hN : 183 ≤ N) {k n : Nat} {A : gM} {x3 : Int32} {x4 : Int32} {x5 : Int32} {x6 : Int32} {x7 : Int32} {x8 : Int32}, K84 N ln k n A x3 x4 x5 x6 x7 x8 = some () → gJ p l e room_1 s m #[Value.ref b] below meth c (lw_Z below #[Value.ref b] s) 25 D g (fun q : Nat => s.heap.size ≤ q) N ad ln A [(0, .inr (.ref b)), (1, gr 0), (3, gi x3), (4, gi x4), (5, gi x5), (6, gi x6), (7, gi x7), (8, gi x8)] k n 84 []) {N : Nat} {ad ln : Nat → Nat} (hN : 183 ≤ N) {k n : Nat} {A : gM} {x3 : Int32} {x4 : Int32} {x5 : Int32} {x6 : Int32} {x7 : Int32} {x8 : Int32} {x9 : Int32} {x10 : Int32} {x16 : Int32} {x17 : Int32} {x18 : Int32} {x19 : Int32} {x21 : Int32} {x22 : Int32} (h : mL_law_b418 xs L K84 N ln k n A x3 x4 x5 x6 x7 x8 x9 x10 x16 x17 x18 x19 x21 x22 = some ()) : gJ p l e room_1 s m #[Value.ref b] below meth c (lw_Z below #[Value.ref b] s) 25 D g (fun q : Nat => s.heap.size ≤ q) N ad ln A [(0, .inr (.ref b)), (1, gr 0), (3, gi x3), (4, gi x4), (5, gi x5), (6, gi x6), (7, gi x7), (8, gi x8), (9, gi x9), (10, gi x10), (16, gi x16), (17, gi x17), (18, gi x18), (19, gi x19), (21, gi x21), (22, gi x22)] k n 418 [] := by
  unfold mL_law_b418 at h
  refine g_iload C 14 dL_law_418 rfl ?_
  refine g_iconst (v := 2) C dL_law_420 (by decide) ?_
  refine g_iadd C dL_law_421 ?_
  refine g_bipush (v := 60) C dL_law_422 (by decide) ?_
  refine g_icmp_le C dL_law_424 (tgt := 453) (by decide) (fun c1 => ?_) (fun c1 => ?_)
  · have h := g_tt c1 h
    refine g_sub [0, 1, 2, 3, 4, 5, 6, 7, 8, 9, 10, 11, 12, 13, 14, 15] rfl ?_
    exact wL_law_b453 C CX hr hK84 hN h
  · have h := g_ff c1 h
    refine g_sub [0, 1, 2, 3, 4, 5, 6, 7, 8, 9, 10, 11, 12, 13, 14, 15] rfl ?_
    exact wL_law_b427 C CX hr hK84 hN h

set_option maxHeartbeats 4000000 in
set_option maxRecDepth 20000 in
theorem wL_law_b382 (C : gC p room_1 s m #[Value.ref b] meth c cL_law RL 25 D g (fun q : Nat => s.heap.size ≤ q) 2048) (CX : gCP l s (fun q : Nat => s.heap.size ≤ q) b L xs) (hr : meth.sig.returnType = ret) {K84 : Nat → (Nat → Nat) → Nat → Nat → gM → Int32 → Int32 → Int32 → Int32 → Int32 → Int32 → Option (Unit)} (hK84 : ∀ {N : Nat} {ad ln : Nat → Nat} (hN : 183 ≤ N) {k n : Nat} {A : gM} {x3 : Int32} {x4 : Int32} {x5 : Int32} {x6 : Int32} {x7 : Int32} {x8 : Int32}, K84 N ln k n A x3 x4 x5 x6 x7 x8 = some () → gJ p l e room_1 s m #[Value.ref b] below meth c (lw_Z below #[Value.ref b] s) 25 D g (fun q : Nat => s.heap.size ≤ q) N ad ln A [(0, .inr (.ref b)), (1, gr 0), (3, gi x3), (4, gi x4), (5, gi x5), (6, gi x6), (7, gi x7), (8, gi x8)] k n 84 []) {N : Nat} {ad ln : Nat → Nat} (hN : 183 ≤ N) {k n : Nat} {A : gM} {x3 : Int32} {x4 : Int32} {x5 : Int32} {x6 : Int32} {x7 : Int32} {x8 : Int32} {x11 : Int32} {x12 : Int32} {x16 : Int32} {x17 : Int32} {x18 : Int32} {x19 : Int32} (h : mL_law_b382 xs L K84 N ln k n A x3 x4 x5 x6 x7 x8 x11 x12 x16 x17 x18 x19 = some ()) : gJ p l e room_1 s m #[Value.ref b] below meth c (lw_Z below #[Value.ref b] s) 25 D g (fun q : Nat => s.heap.size ≤ q) N ad ln A [(0, .inr (.ref b)), (1, gr 0), (3, gi x3), (4, gi x4), (5, gi x5), (6, gi x6), (7, gi x7), (8, gi x8), (11, gi x11), (12, gi x12), (16, gi x16), (17, gi x17), (18, gi x18), (19, gi x19)] k n 382 [] := by
  unfold mL_law_b382 at h
  refine g_aload_n C 1 dL_law_382 rfl ?_
  refine g_iload C 8 dL_law_383 rfl ?_
  refine g_iload C 9 dL_law_385 rfl ?_
  refine g_iconst (v := 4) C dL_law_387 (by decide) ?_
  obtain ⟨⟨hg1a, hg1b⟩, h⟩ := g_gd h
  obtain ⟨N4, eN4, h⟩ := g_lt h
  obtain ⟨ln2, eln2, h⟩ := g_lt h
  obtain ⟨A3, eA3, h⟩ := g_lt h
  refine g_newJ C hN qa_int ⟨hg1a.2, rfl, hg1a.1⟩ hg1b ⟨(by omega), trivial⟩ ⟨(by omega), trivial⟩ dL_law_388 (fun q => ?_)
  rw [eN4, eln2, eA3]
  have hgq : ∀ i, i < N → va_up ad N q i = ad i := g_up_o
  generalize va_up ad N q = ad at hgq ⊢
  have hN : 183 ≤ N4 := by omega
  refine g_dup_r C dL_law_390 ?_
  refine g_iconst (v := 0) C dL_law_391 (by decide) ?_
  refine g_iload C 10 dL_law_392 rfl ?_
  obtain ⟨hg5, h⟩ := g_gd h
  obtain ⟨A6, eA6, h⟩ := g_lt h
  refine g_jast C N hg5 eA6 dL_law_394 ?_
  refine g_dup_r C dL_law_395 ?_
  refine g_iconst (v := 1) C dL_law_396 (by decide) ?_
  refine g_iload C 11 dL_law_397 rfl ?_
  obtain ⟨hg7, h⟩ := g_gd h
  obtain ⟨A8, eA8, h⟩ := g_lt h
  refine g_jast C N hg7 eA8 dL_law_399 ?_
  refine g_dup_r C dL_law_400 ?_
  refine g_iconst (v := 2) C dL_law_401 (by decide) ?_
  refine g_iload C 12 dL_law_402 rfl ?_
  obtain ⟨hg9, h⟩ := g_gd h
  obtain ⟨A10, eA10, h⟩ := g_lt h
  refine g_jast C N hg9 eA10 dL_law_404 ?_
  refine g_dup_r C dL_law_405 ?_
  refine g_iconst (v := 3) C dL_law_406 (by decide) ?_
  refine g_iload C 13 dL_law_407 rfl ?_
  obtain ⟨hg11, h⟩ := g_gd h
  obtain ⟨A12, eA12, h⟩ := g_lt h
  refine g_jast C N hg11 eA12 dL_law_409 ?_
  obtain ⟨hg14a, h⟩ := g_gd h
  obtain ⟨N17, ln18, A16, r15, eq13, h⟩ := g_cpx h
  obtain ⟨hg14N, h⟩ := g_gd h
  refine g_callPi C CX [gr 0, gi x11, gi x12, gr N] (kL_isFault hN CX.1 eq13) qs_L_115 (by omega) rfl rfl (Nat.le_of_ble_eq_true rfl) hg14a ⟨(by omega), trivial⟩ trivial dL_law_410 (fun ad1 hgq => ?_)
  generalize ad1 = ad at hgq ⊢
  have hN : 183 ≤ N17 := by omega
  refine g_if_ne C dL_law_413 (tgt := 848) (by decide) (fun c19 => ?_) (fun c19 => ?_)
  · have h := g_ff c19 h
    refine g_sub [0, 1, 2, 3, 4, 5, 6, 7] rfl ?_
    exact wL_law_b848 C CX hr hK84 hN h
  · have h := g_tt c19 h
    refine g_iconst (v := 0) C dL_law_416 (by decide) ?_
    cases h

set_option maxHeartbeats 4000000 in
set_option maxRecDepth 20000 in
theorem wL_law_b359 (C : gC p room_1 s m #[Value.ref b] meth c cL_law RL 25 D g (fun q : Nat => s.heap.size ≤ q) 2048) (CX : gCP l s (fun q : Nat => s.heap.size ≤ q) b L xs) (hr : meth.sig.returnType = ret) {K84 : Nat → (Nat → Nat) → Nat → Nat → gM → Int32 → Int32 → Int32 → Int32 → Int32 → Int32 → Option (Unit)} (hK84 : ∀ {N : Nat} {ad ln : Nat → Nat} (hN : 183 ≤ N) {k n : Nat} {A : gM} {x3 : Int32} {x4 : Int32} {x5 : Int32} {x6 : Int32} {x7 : Int32} {x8 : Int32}, K84 N ln k n A x3 x4 x5 x6 x7 x8 = some () → gJ p l e room_1 s m #[Value.ref b] below meth c (lw_Z below #[Value.ref b] s) 25 D g (fun q : Nat => s.heap.size ≤ q) N ad ln A [(0, .inr (.ref b)), (1, gr 0), (3, gi x3), (4, gi x4), (5, gi x5), (6, gi x6), (7, gi x7), (8, gi x8)] k n 84 []) {N : Nat} {ad ln : Nat → Nat} (hN : 183 ≤ N) {k n : Nat} {A : gM} {x3 : Int32} {x4 : Int32} {x5 : Int32} {x6 : Int32} {x7 : Int32} {x8 : Int32} {x9 : Int32} {x10 : Int32} {x11 : Int32} {x12 : Int32} {x16 : Int32} {x17 : Int32} {x18 : Int32} {x19 : Int32} (h : mL_law_b359 xs L K84 N ln k n A x3 x4 x5 x6 x7 x8 x9 x10 x11 x12 x16 x17 x18 x19 = some ()) : gJ p l e room_1 s m #[Value.ref b] below meth c (lw_Z below #[Value.ref b] s) 25 D g (fun q : Nat => s.heap.size ≤ q) N ad ln A [(0, .inr (.ref b)), (1, gr 0), (3, gi x3), (4, gi x4), (5, gi x5), (6, gi x6), (7, gi x7), (8, gi x8), (9, gi x9), (10, gi x10), (11, gi x11), (12, gi x12), (16, gi x16), (17, gi x17), (18, gi x18), (19, gi x19)] k n 359 [] := by
  unfold mL_law_b359 at h
  refine g_aload_n C 1 dL_law_359 rfl ?_
  refine g_iload C 8 dL_law_360 rfl ?_
  refine g_iconst (v := 2) C dL_law_362 (by decide) ?_
  obtain ⟨hg2, h⟩ := g_gd h
  obtain ⟨A3, r4, eq1, h⟩ := g_cxx h
  refine g_callX C CX 0 [gi x9, gi 2] (kX5_type hN CX.1 eq1) qs_L_44 (by omega) (by omega) rfl rfl rfl rfl (Nat.le_of_ble_eq_true rfl) hg2 dL_law_363 ?_
  refine g_istore C dL_law_366 (by decide) rfl ?_
  refine g_aload_n C 2 dL_law_368 rfl ?_
  refine g_iload C 9 dL_law_369 rfl ?_
  refine g_iconst (v := 3) C dL_law_371 (by decide) ?_
  obtain ⟨hg6, h⟩ := g_gd h
  obtain ⟨A7, r8, eq5, h⟩ := g_cxx h
  refine g_callX C CX 0 [gi x9, gi 3] (kX5_type hN CX.1 eq5) qs_L_44 (by omega) (by omega) rfl rfl rfl rfl (Nat.le_of_ble_eq_true rfl) hg6 dL_law_372 ?_
  refine g_istore C dL_law_375 (by decide) rfl ?_
  refine g_iload C 12 dL_law_377 rfl ?_
  refine g_if_eq C dL_law_379 (tgt := 418) (by decide) (fun c9 => ?_) (fun c9 => ?_)
  · have h := g_tt c9 h
    refine g_sub [2, 3, 4, 5, 6, 7, 8, 9, 10, 11, 14, 15, 16, 17, 1, 0] rfl ?_
    exact wL_law_b418 C CX hr hK84 hN h
  · have h := g_ff c9 h
    refine g_sub [2, 3, 4, 5, 6, 7, 8, 9, 12, 13, 14, 15, 16, 17] rfl ?_
    exact wL_law_b382 C CX hr hK84 hN h

set_option maxHeartbeats 4000000 in
set_option maxRecDepth 20000 in
theorem wL_law_b351 (C : gC p room_1 s m #[Value.ref b] meth c cL_law RL 25 D g (fun q : Nat => s.heap.size ≤ q) 2048) (CX : gCP l s (fun q : Nat => s.heap.size ≤ q) b L xs) (hr : meth.sig.returnType = ret)  {N : Nat} {ad ln : Nat → Nat} (hN : 183 ≤ N) {k n : Nat} {A : gM} (h : mL_law_b351 xs L N ln k n A = some ()) : gJ p l e room_1 s m #[Value.ref b] below meth c (lw_Z below #[Value.ref b] s) 25 D g (fun q : Nat => s.heap.size ≤ q) N ad ln A [] k n 351 [] := by
  unfold mL_law_b351 at h
  refine g_iconst (v := 0) C dL_law_351 (by decide) ?_
  cases h

set_option maxHeartbeats 4000000 in
set_option maxRecDepth 20000 in
theorem wL_law_b338 (C : gC p room_1 s m #[Value.ref b] meth c cL_law RL 25 D g (fun q : Nat => s.heap.size ≤ q) 2048) (CX : gCP l s (fun q : Nat => s.heap.size ≤ q) b L xs) (hr : meth.sig.returnType = ret) {K84 : Nat → (Nat → Nat) → Nat → Nat → gM → Int32 → Int32 → Int32 → Int32 → Int32 → Int32 → Option (Unit)} {K284 : Nat → (Nat → Nat) → Nat → Nat → gM → Int32 → Int32 → Int32 → Int32 → Int32 → Int32 → Int32 → Int32 → Int32 → Int32 → Int32 → Int32 → Int32 → Int32 → Nat → Int32 → Int32 → Option (Unit)} (hK84 : ∀ {N : Nat} {ad ln : Nat → Nat} (hN : 183 ≤ N) {k n : Nat} {A : gM} {x3 : Int32} {x4 : Int32} {x5 : Int32} {x6 : Int32} {x7 : Int32} {x8 : Int32}, K84 N ln k n A x3 x4 x5 x6 x7 x8 = some () → gJ p l e room_1 s m #[Value.ref b] below meth c (lw_Z below #[Value.ref b] s) 25 D g (fun q : Nat => s.heap.size ≤ q) N ad ln A [(0, .inr (.ref b)), (1, gr 0), (3, gi x3), (4, gi x4), (5, gi x5), (6, gi x6), (7, gi x7), (8, gi x8)] k n 84 []) (hK284 : ∀ {N : Nat} {ad ln : Nat → Nat} (hN : 183 ≤ N) {k n : Nat} {A : gM} {x3 : Int32} {x4 : Int32} {x5 : Int32} {x6 : Int32} {x7 : Int32} {x8 : Int32} {x9 : Int32} {x10 : Int32} {x11 : Int32} {x12 : Int32} {x16 : Int32} {x17 : Int32} {x18 : Int32} {x19 : Int32} {x21 : Nat} {x22 : Int32} {x23 : Int32}, K284 N ln k n A x3 x4 x5 x6 x7 x8 x9 x10 x11 x12 x16 x17 x18 x19 x21 x22 x23 = some () → gJ p l e room_1 s m #[Value.ref b] below meth c (lw_Z below #[Value.ref b] s) 25 D g (fun q : Nat => s.heap.size ≤ q) N ad ln A [(0, .inr (.ref b)), (1, gr 0), (3, gi x3), (4, gi x4), (5, gi x5), (6, gi x6), (7, gi x7), (8, gi x8), (9, gi x9), (10, gi x10), (11, gi x11), (12, gi x12), (16, gi x16), (17, gi x17), (18, gi x18), (19, gi x19), (21, gr x21), (22, gi x22), (23, gi x23)] k n 284 []) {N : Nat} {ad ln : Nat → Nat} (hN : 183 ≤ N) {k n : Nat} {A : gM} {x3 : Int32} {x4 : Int32} {x5 : Int32} {x6 : Int32} {x7 : Int32} {x8 : Int32} {x9 : Int32} {x10 : Int32} {x11 : Int32} {x12 : Int32} {x16 : Int32} {x17 : Int32} {x18 : Int32} {x19 : Int32} {x21 : Nat} {x22 : Int32} {x23 : Int32} {x24 : Int32} (h : mL_law_b338 xs L K84 K284 N ln k n A x3 x4 x5 x6 x7 x8 x9 x10 x11 x12 x16 x17 x18 x19 x21 x22 x23 x24 = some ()) : gJ p l e room_1 s m #[Value.ref b] below meth c (lw_Z below #[Value.ref b] s) 25 D g (fun q : Nat => s.heap.size ≤ q) N ad ln A [(0, .inr (.ref b)), (1, gr 0), (3, gi x3), (4, gi x4), (5, gi x5), (6, gi x6), (7, gi x7), (8, gi x8), (9, gi x9), (10, gi x10), (11, gi x11), (12, gi x12), (16, gi x16), (17, gi x17), (18, gi x18), (19, gi x19), (21, gr x21), (22, gi x22), (23, gi x23), (24, gi x24)] k n 338 [] := by
  unfold mL_law_b338 at h
  refine g_aload_n C 1 dL_law_338 rfl ?_
  refine g_iload C 5 dL_law_339 rfl ?_
  refine g_iload C 19 dL_law_341 rfl ?_
  obtain ⟨hg2, h⟩ := g_gd h
  obtain ⟨A3, r4, eq1, h⟩ := g_cxx h
  refine g_callX C CX 0 [gi x6, gi x24] (kX5_goes hN CX.1 eq1) qs_L_112 (by omega) (by omega) rfl rfl rfl rfl (Nat.le_of_ble_eq_true rfl) hg2 dL_law_343 ?_
  refine g_iload C 10 dL_law_346 rfl ?_
  refine g_icmp_eq C dL_law_348 (tgt := 353) (by decide) (fun c5 => ?_) (fun c5 => ?_)
  · have h := g_tt c5 h
    obtain ⟨v6, ev6, h⟩ := g_lt h
    refine g_iinc C 18 dL_law_353 rfl ev6 (by decide) rfl ?_
    refine g_goto C dL_law_356 (tgt := 284) (by decide) ?_
    refine g_sub [1, 2, 3, 4, 5, 6, 7, 8, 9, 10, 11, 12, 13, 14, 15, 16, 17, 18, 0] rfl ?_
    exact hK284 hN h
  · have h := g_ff c5 h
    refine g_sub [] rfl ?_
    exact wL_law_b351 C CX hr hN h

set_option maxHeartbeats 4000000 in
set_option maxRecDepth 20000 in
theorem wL_law_b327 (C : gC p room_1 s m #[Value.ref b] meth c cL_law RL 25 D g (fun q : Nat => s.heap.size ≤ q) 2048) (CX : gCP l s (fun q : Nat => s.heap.size ≤ q) b L xs) (hr : meth.sig.returnType = ret) {K84 : Nat → (Nat → Nat) → Nat → Nat → gM → Int32 → Int32 → Int32 → Int32 → Int32 → Int32 → Option (Unit)} {K284 : Nat → (Nat → Nat) → Nat → Nat → gM → Int32 → Int32 → Int32 → Int32 → Int32 → Int32 → Int32 → Int32 → Int32 → Int32 → Int32 → Int32 → Int32 → Int32 → Nat → Int32 → Int32 → Option (Unit)} (hK84 : ∀ {N : Nat} {ad ln : Nat → Nat} (hN : 183 ≤ N) {k n : Nat} {A : gM} {x3 : Int32} {x4 : Int32} {x5 : Int32} {x6 : Int32} {x7 : Int32} {x8 : Int32}, K84 N ln k n A x3 x4 x5 x6 x7 x8 = some () → gJ p l e room_1 s m #[Value.ref b] below meth c (lw_Z below #[Value.ref b] s) 25 D g (fun q : Nat => s.heap.size ≤ q) N ad ln A [(0, .inr (.ref b)), (1, gr 0), (3, gi x3), (4, gi x4), (5, gi x5), (6, gi x6), (7, gi x7), (8, gi x8)] k n 84 []) (hK284 : ∀ {N : Nat} {ad ln : Nat → Nat} (hN : 183 ≤ N) {k n : Nat} {A : gM} {x3 : Int32} {x4 : Int32} {x5 : Int32} {x6 : Int32} {x7 : Int32} {x8 : Int32} {x9 : Int32} {x10 : Int32} {x11 : Int32} {x12 : Int32} {x16 : Int32} {x17 : Int32} {x18 : Int32} {x19 : Int32} {x21 : Nat} {x22 : Int32} {x23 : Int32}, K284 N ln k n A x3 x4 x5 x6 x7 x8 x9 x10 x11 x12 x16 x17 x18 x19 x21 x22 x23 = some () → gJ p l e room_1 s m #[Value.ref b] below meth c (lw_Z below #[Value.ref b] s) 25 D g (fun q : Nat => s.heap.size ≤ q) N ad ln A [(0, .inr (.ref b)), (1, gr 0), (3, gi x3), (4, gi x4), (5, gi x5), (6, gi x6), (7, gi x7), (8, gi x8), (9, gi x9), (10, gi x10), (11, gi x11), (12, gi x12), (16, gi x16), (17, gi x17), (18, gi x18), (19, gi x19), (21, gr x21), (22, gi x22), (23, gi x23)] k n 284 []) {N : Nat} {ad ln : Nat → Nat} (hN : 183 ≤ N) {k n : Nat} {A : gM} {x3 : Int32} {x4 : Int32} {x5 : Int32} {x6 : Int32} {x7 : Int32} {x8 : Int32} {x9 : Int32} {x10 : Int32} {x11 : Int32} {x12 : Int32} {x16 : Int32} {x17 : Int32} {x18 : Int32} {x19 : Int32} {x21 : Nat} {x22 : Int32} {x23 : Int32} {x24 : Int32} (h : mL_law_b327 xs L K84 K284 N ln k n A x3 x4 x5 x6 x7 x8 x9 x10 x11 x12 x16 x17 x18 x19 x21 x22 x23 x24 = some ()) : gJ p l e room_1 s m #[Value.ref b] below meth c (lw_Z below #[Value.ref b] s) 25 D g (fun q : Nat => s.heap.size ≤ q) N ad ln A [(0, .inr (.ref b)), (1, gr 0), (3, gi x3), (4, gi x4), (5, gi x5), (6, gi x6), (7, gi x7), (8, gi x8), (9, gi x9), (10, gi x10), (11, gi x11), (12, gi x12), (16, gi x16), (17, gi x17), (18, gi x18), (19, gi x19), (21, gr x21), (22, gi x22), (23, gi x23), (24, gi x24)] k n 327 [] := by
  unfold mL_law_b327 at h
  refine g_aload_n C 1 dL_law_327 rfl ?_
  refine g_iload C 19 dL_law_328 rfl ?_
  refine g_iload C 8 dL_law_330 rfl ?_
  obtain ⟨hg2, h⟩ := g_gd h
  obtain ⟨A3, r4, eq1, h⟩ := g_cxx h
  refine g_callX C CX 0 [gi x24, gi x9] (kX5_same hN CX.1 eq1) qs_L_108 (by omega) (by omega) rfl rfl rfl rfl (Nat.le_of_ble_eq_true rfl) hg2 dL_law_332 ?_
  refine g_if_eq C dL_law_335 (tgt := 351) (by decide) (fun c5 => ?_) (fun c5 => ?_)
  · have h := g_tt c5 h
    refine g_sub [] rfl ?_
    exact wL_law_b351 C CX hr hN h
  · have h := g_ff c5 h
    refine g_sub [0, 1, 2, 3, 4, 5, 6, 7, 8, 9, 10, 11, 12, 13, 14, 15, 16, 17, 18, 19] rfl ?_
    exact wL_law_b338 C CX hr hK84 hK284 hN h

set_option maxHeartbeats 4000000 in
set_option maxRecDepth 20000 in
theorem wL_law_b310 (C : gC p room_1 s m #[Value.ref b] meth c cL_law RL 25 D g (fun q : Nat => s.heap.size ≤ q) 2048) (CX : gCP l s (fun q : Nat => s.heap.size ≤ q) b L xs) (hr : meth.sig.returnType = ret) {K84 : Nat → (Nat → Nat) → Nat → Nat → gM → Int32 → Int32 → Int32 → Int32 → Int32 → Int32 → Option (Unit)} {K284 : Nat → (Nat → Nat) → Nat → Nat → gM → Int32 → Int32 → Int32 → Int32 → Int32 → Int32 → Int32 → Int32 → Int32 → Int32 → Int32 → Int32 → Int32 → Int32 → Nat → Int32 → Int32 → Option (Unit)} (hK84 : ∀ {N : Nat} {ad ln : Nat → Nat} (hN : 183 ≤ N) {k n : Nat} {A : gM} {x3 : Int32} {x4 : Int32} {x5 : Int32} {x6 : Int32} {x7 : Int32} {x8 : Int32}, K84 N ln k n A x3 x4 x5 x6 x7 x8 = some () → gJ p l e room_1 s m #[Value.ref b] below meth c (lw_Z below #[Value.ref b] s) 25 D g (fun q : Nat => s.heap.size ≤ q) N ad ln A [(0, .inr (.ref b)), (1, gr 0), (3, gi x3), (4, gi x4), (5, gi x5), (6, gi x6), (7, gi x7), (8, gi x8)] k n 84 []) (hK284 : ∀ {N : Nat} {ad ln : Nat → Nat} (hN : 183 ≤ N) {k n : Nat} {A : gM} {x3 : Int32} {x4 : Int32} {x5 : Int32} {x6 : Int32} {x7 : Int32} {x8 : Int32} {x9 : Int32} {x10 : Int32} {x11 : Int32} {x12 : Int32} {x16 : Int32} {x17 : Int32} {x18 : Int32} {x19 : Int32} {x21 : Nat} {x22 : Int32} {x23 : Int32}, K284 N ln k n A x3 x4 x5 x6 x7 x8 x9 x10 x11 x12 x16 x17 x18 x19 x21 x22 x23 = some () → gJ p l e room_1 s m #[Value.ref b] below meth c (lw_Z below #[Value.ref b] s) 25 D g (fun q : Nat => s.heap.size ≤ q) N ad ln A [(0, .inr (.ref b)), (1, gr 0), (3, gi x3), (4, gi x4), (5, gi x5), (6, gi x6), (7, gi x7), (8, gi x8), (9, gi x9), (10, gi x10), (11, gi x11), (12, gi x12), (16, gi x16), (17, gi x17), (18, gi x18), (19, gi x19), (21, gr x21), (22, gi x22), (23, gi x23)] k n 284 []) {N : Nat} {ad ln : Nat → Nat} (hN : 183 ≤ N) {k n : Nat} {A : gM} {x3 : Int32} {x4 : Int32} {x5 : Int32} {x6 : Int32} {x7 : Int32} {x8 : Int32} {x9 : Int32} {x10 : Int32} {x11 : Int32} {x12 : Int32} {x16 : Int32} {x17 : Int32} {x18 : Int32} {x19 : Int32} {x21 : Nat} {x22 : Int32} {x23 : Int32} {x24 : Int32} (h : mL_law_b310 xs L K84 K284 N ln k n A x3 x4 x5 x6 x7 x8 x9 x10 x11 x12 x16 x17 x18 x19 x21 x22 x23 x24 = some ()) : gJ p l e room_1 s m #[Value.ref b] below meth c (lw_Z below #[Value.ref b] s) 25 D g (fun q : Nat => s.heap.size ≤ q) N ad ln A [(0, .inr (.ref b)), (1, gr 0), (3, gi x3), (4, gi x4), (5, gi x5), (6, gi x6), (7, gi x7), (8, gi x8), (9, gi x9), (10, gi x10), (11, gi x11), (12, gi x12), (16, gi x16), (17, gi x17), (18, gi x18), (19, gi x19), (21, gr x21), (22, gi x22), (23, gi x23), (24, gi x24)] k n 310 [] := by
  unfold mL_law_b310 at h
  refine g_aload_n C 1 dL_law_310 rfl ?_
  refine g_iload C 19 dL_law_311 rfl ?_
  refine g_iconst (v := 1) C dL_law_313 (by decide) ?_
  obtain ⟨hg2, h⟩ := g_gd h
  obtain ⟨A3, r4, eq1, h⟩ := g_cxx h
  refine g_callX C CX 0 [gi x24, gi 1] (kX5_type hN CX.1 eq1) qs_L_44 (by omega) (by omega) rfl rfl rfl rfl (Nat.le_of_ble_eq_true rfl) hg2 dL_law_314 ?_
  refine g_iload C 11 dL_law_317 rfl ?_
  refine g_icmp_ne C dL_law_319 (tgt := 351) (by decide) (fun c5 => ?_) (fun c5 => ?_)
  · have h := g_ff c5 h
    refine g_sub [] rfl ?_
    exact wL_law_b351 C CX hr hN h
  · have h := g_tt c5 h
    refine g_iload C 10 dL_law_322 rfl ?_
    refine g_if_ne C dL_law_324 (tgt := 338) (by decide) (fun c6 => ?_) (fun c6 => ?_)
    · have h := g_ff c6 h
      refine g_sub [0, 1, 2, 3, 4, 5, 6, 7, 8, 9, 10, 11, 12, 13, 14, 15, 16, 17, 18, 19] rfl ?_
      exact wL_law_b338 C CX hr hK84 hK284 hN h
    · have h := g_tt c6 h
      refine g_sub [0, 1, 2, 3, 4, 5, 6, 7, 8, 9, 10, 11, 12, 13, 14, 15, 16, 17, 18, 19] rfl ?_
      exact wL_law_b327 C CX hr hK84 hK284 hN h

set_option maxHeartbeats 4000000 in
set_option maxRecDepth 20000 in
theorem wL_law_b298 (C : gC p room_1 s m #[Value.ref b] meth c cL_law RL 25 D g (fun q : Nat => s.heap.size ≤ q) 2048) (CX : gCP l s (fun q : Nat => s.heap.size ≤ q) b L xs) (hr : meth.sig.returnType = ret) {K84 : Nat → (Nat → Nat) → Nat → Nat → gM → Int32 → Int32 → Int32 → Int32 → Int32 → Int32 → Option (Unit)} {K284 : Nat → (Nat → Nat) → Nat → Nat → gM → Int32 → Int32 → Int32 → Int32 → Int32 → Int32 → Int32 → Int32 → Int32 → Int32 → Int32 → Int32 → Int32 → Int32 → Nat → Int32 → Int32 → Option (Unit)} (hK84 : ∀ {N : Nat} {ad ln : Nat → Nat} (hN : 183 ≤ N) {k n : Nat} {A : gM} {x3 : Int32} {x4 : Int32} {x5 : Int32} {x6 : Int32} {x7 : Int32} {x8 : Int32}, K84 N ln k n A x3 x4 x5 x6 x7 x8 = some () → gJ p l e room_1 s m #[Value.ref b] below meth c (lw_Z below #[Value.ref b] s) 25 D g (fun q : Nat => s.heap.size ≤ q) N ad ln A [(0, .inr (.ref b)), (1, gr 0), (3, gi x3), (4, gi x4), (5, gi x5), (6, gi x6), (7, gi x7), (8, gi x8)] k n 84 []) (hK284 : ∀ {N : Nat} {ad ln : Nat → Nat} (hN : 183 ≤ N) {k n : Nat} {A : gM} {x3 : Int32} {x4 : Int32} {x5 : Int32} {x6 : Int32} {x7 : Int32} {x8 : Int32} {x9 : Int32} {x10 : Int32} {x11 : Int32} {x12 : Int32} {x16 : Int32} {x17 : Int32} {x18 : Int32} {x19 : Int32} {x21 : Nat} {x22 : Int32} {x23 : Int32}, K284 N ln k n A x3 x4 x5 x6 x7 x8 x9 x10 x11 x12 x16 x17 x18 x19 x21 x22 x23 = some () → gJ p l e room_1 s m #[Value.ref b] below meth c (lw_Z below #[Value.ref b] s) 25 D g (fun q : Nat => s.heap.size ≤ q) N ad ln A [(0, .inr (.ref b)), (1, gr 0), (3, gi x3), (4, gi x4), (5, gi x5), (6, gi x6), (7, gi x7), (8, gi x8), (9, gi x9), (10, gi x10), (11, gi x11), (12, gi x12), (16, gi x16), (17, gi x17), (18, gi x18), (19, gi x19), (21, gr x21), (22, gi x22), (23, gi x23)] k n 284 []) {N : Nat} {ad ln : Nat → Nat} (hN : 183 ≤ N) {k n : Nat} {A : gM} {x3 : Int32} {x4 : Int32} {x5 : Int32} {x6 : Int32} {x7 : Int32} {x8 : Int32} {x9 : Int32} {x10 : Int32} {x11 : Int32} {x12 : Int32} {x16 : Int32} {x17 : Int32} {x18 : Int32} {x19 : Int32} {x21 : Nat} {x22 : Int32} {x23 : Int32} {x24 : Int32} (h : mL_law_b298 xs L K84 K284 N ln k n A x3 x4 x5 x6 x7 x8 x9 x10 x11 x12 x16 x17 x18 x19 x21 x22 x23 x24 = some ()) : gJ p l e room_1 s m #[Value.ref b] below meth c (lw_Z below #[Value.ref b] s) 25 D g (fun q : Nat => s.heap.size ≤ q) N ad ln A [(0, .inr (.ref b)), (1, gr 0), (3, gi x3), (4, gi x4), (5, gi x5), (6, gi x6), (7, gi x7), (8, gi x8), (9, gi x9), (10, gi x10), (11, gi x11), (12, gi x12), (16, gi x16), (17, gi x17), (18, gi x18), (19, gi x19), (21, gr x21), (22, gi x22), (23, gi x23), (24, gi x24)] k n 298 [] := by
  unfold mL_law_b298 at h
  refine g_aload_n C 1 dL_law_298 rfl ?_
  refine g_iload C 19 dL_law_299 rfl ?_
  refine g_iconst (v := 0) C dL_law_301 (by decide) ?_
  obtain ⟨hg2, h⟩ := g_gd h
  obtain ⟨A3, r4, eq1, h⟩ := g_cxx h
  refine g_callX C CX 0 [gi x24, gi 0] (kX5_type hN CX.1 eq1) qs_L_44 (by omega) (by omega) rfl rfl rfl rfl (Nat.le_of_ble_eq_true rfl) hg2 dL_law_302 ?_
  refine g_iload C 10 dL_law_305 rfl ?_
  refine g_icmp_ne C dL_law_307 (tgt := 351) (by decide) (fun c5 => ?_) (fun c5 => ?_)
  · have h := g_ff c5 h
    refine g_sub [] rfl ?_
    exact wL_law_b351 C CX hr hN h
  · have h := g_tt c5 h
    refine g_sub [0, 1, 2, 3, 4, 5, 6, 7, 8, 9, 10, 11, 12, 13, 14, 15, 16, 17, 18, 19] rfl ?_
    exact wL_law_b310 C CX hr hK84 hK284 hN h

set_option maxHeartbeats 4000000 in
set_option maxRecDepth 20000 in
theorem wL_law_b284 (C : gC p room_1 s m #[Value.ref b] meth c cL_law RL 25 D g (fun q : Nat => s.heap.size ≤ q) 2048) (CX : gCP l s (fun q : Nat => s.heap.size ≤ q) b L xs) (hr : meth.sig.returnType = ret) {K84 : Nat → (Nat → Nat) → Nat → Nat → gM → Int32 → Int32 → Int32 → Int32 → Int32 → Int32 → Option (Unit)} {K284 : Nat → (Nat → Nat) → Nat → Nat → gM → Int32 → Int32 → Int32 → Int32 → Int32 → Int32 → Int32 → Int32 → Int32 → Int32 → Int32 → Int32 → Int32 → Int32 → Nat → Int32 → Int32 → Option (Unit)} (hK84 : ∀ {N : Nat} {ad ln : Nat → Nat} (hN : 183 ≤ N) {k n : Nat} {A : gM} {x3 : Int32} {x4 : Int32} {x5 : Int32} {x6 : Int32} {x7 : Int32} {x8 : Int32}, K84 N ln k n A x3 x4 x5 x6 x7 x8 = some () → gJ p l e room_1 s m #[Value.ref b] below meth c (lw_Z below #[Value.ref b] s) 25 D g (fun q : Nat => s.heap.size ≤ q) N ad ln A [(0, .inr (.ref b)), (1, gr 0), (3, gi x3), (4, gi x4), (5, gi x5), (6, gi x6), (7, gi x7), (8, gi x8)] k n 84 []) (hK284 : ∀ {N : Nat} {ad ln : Nat → Nat} (hN : 183 ≤ N) {k n : Nat} {A : gM} {x3 : Int32} {x4 : Int32} {x5 : Int32} {x6 : Int32} {x7 : Int32} {x8 : Int32} {x9 : Int32} {x10 : Int32} {x11 : Int32} {x12 : Int32} {x16 : Int32} {x17 : Int32} {x18 : Int32} {x19 : Int32} {x21 : Nat} {x22 : Int32} {x23 : Int32}, K284 N ln k n A x3 x4 x5 x6 x7 x8 x9 x10 x11 x12 x16 x17 x18 x19 x21 x22 x23 = some () → gJ p l e room_1 s m #[Value.ref b] below meth c (lw_Z below #[Value.ref b] s) 25 D g (fun q : Nat => s.heap.size ≤ q) N ad ln A [(0, .inr (.ref b)), (1, gr 0), (3, gi x3), (4, gi x4), (5, gi x5), (6, gi x6), (7, gi x7), (8, gi x8), (9, gi x9), (10, gi x10), (11, gi x11), (12, gi x12), (16, gi x16), (17, gi x17), (18, gi x18), (19, gi x19), (21, gr x21), (22, gi x22), (23, gi x23)] k n 284 []) {N : Nat} {ad ln : Nat → Nat} (hN : 183 ≤ N) {k n : Nat} {A : gM} {x3 : Int32} {x4 : Int32} {x5 : Int32} {x6 : Int32} {x7 : Int32} {x8 : Int32} {x9 : Int32} {x10 : Int32} {x11 : Int32} {x12 : Int32} {x16 : Int32} {x17 : Int32} {x18 : Int32} {x19 : Int32} {x21 : Nat} {x22 : Int32} {x23 : Int32} (h : mL_law_b284 xs L K84 K284 N ln k n A x3 x4 x5 x6 x7 x8 x9 x10 x11 x12 x16 x17 x18 x19 x21 x22 x23 = some ()) : gJ p l e room_1 s m #[Value.ref b] below meth c (lw_Z below #[Value.ref b] s) 25 D g (fun q : Nat => s.heap.size ≤ q) N ad ln A [(0, .inr (.ref b)), (1, gr 0), (3, gi x3), (4, gi x4), (5, gi x5), (6, gi x6), (7, gi x7), (8, gi x8), (9, gi x9), (10, gi x10), (11, gi x11), (12, gi x12), (16, gi x16), (17, gi x17), (18, gi x18), (19, gi x19), (21, gr x21), (22, gi x22), (23, gi x23)] k n 284 [] := by
  unfold mL_law_b284 at h
  refine g_iload C 18 dL_law_284 rfl ?_
  refine g_iload C 17 dL_law_286 rfl ?_
  refine g_icmp_ge C dL_law_288 (tgt := 359) (by decide) (fun c1 => ?_) (fun c1 => ?_)
  · have h := g_tt c1 h
    refine g_sub [0, 1, 2, 3, 4, 5, 6, 7, 8, 9, 10, 11, 12, 13, 14, 15] rfl ?_
    exact wL_law_b359 C CX hr hK84 hN h
  · have h := g_ff c1 h
    refine g_aload C 16 dL_law_291 rfl ?_
    refine g_iload C 18 dL_law_293 rfl ?_
    obtain ⟨hg2, h⟩ := g_gd h
    refine g_jald C x21 hg2 dL_law_295 ?_
    obtain ⟨v3, ev3, h⟩ := g_lt h
    refine g_topi ev3 ?_
    refine g_istore C dL_law_296 (by decide) rfl ?_
    refine g_sub [1, 2, 3, 4, 5, 6, 7, 8, 9, 10, 11, 12, 13, 14, 15, 16, 17, 18, 19, 0] rfl ?_
    exact wL_law_b298 C CX hr hK84 hK284 hN h

set_option maxHeartbeats 4000000 in
set_option maxRecDepth 20000 in
theorem wL_law_L284 (C : gC p room_1 s m #[Value.ref b] meth c cL_law RL 25 D g (fun q : Nat => s.heap.size ≤ q) 2048) (CX : gCP l s (fun q : Nat => s.heap.size ≤ q) b L xs) (hr : meth.sig.returnType = ret) {K84 : Nat → (Nat → Nat) → Nat → Nat → gM → Int32 → Int32 → Int32 → Int32 → Int32 → Int32 → Option (Unit)} (hK84 : ∀ {N : Nat} {ad ln : Nat → Nat} (hN : 183 ≤ N) {k n : Nat} {A : gM} {x3 : Int32} {x4 : Int32} {x5 : Int32} {x6 : Int32} {x7 : Int32} {x8 : Int32}, K84 N ln k n A x3 x4 x5 x6 x7 x8 = some () → gJ p l e room_1 s m #[Value.ref b] below meth c (lw_Z below #[Value.ref b] s) 25 D g (fun q : Nat => s.heap.size ≤ q) N ad ln A [(0, .inr (.ref b)), (1, gr 0), (3, gi x3), (4, gi x4), (5, gi x5), (6, gi x6), (7, gi x7), (8, gi x8)] k n 84 []) : ∀ (f : Nat) {N : Nat} {ad ln : Nat → Nat} (hN : 183 ≤ N) {k n : Nat} {A : gM} {x3 : Int32} {x4 : Int32} {x5 : Int32} {x6 : Int32} {x7 : Int32} {x8 : Int32} {x9 : Int32} {x10 : Int32} {x11 : Int32} {x12 : Int32} {x16 : Int32} {x17 : Int32} {x18 : Int32} {x19 : Int32} {x21 : Nat} {x22 : Int32} {x23 : Int32}, mL_law_L284 xs L K84 f N ln k n A x3 x4 x5 x6 x7 x8 x9 x10 x11 x12 x16 x17 x18 x19 x21 x22 x23 = some () → gJ p l e room_1 s m #[Value.ref b] below meth c (lw_Z below #[Value.ref b] s) 25 D g (fun q : Nat => s.heap.size ≤ q) N ad ln A [(0, .inr (.ref b)), (1, gr 0), (3, gi x3), (4, gi x4), (5, gi x5), (6, gi x6), (7, gi x7), (8, gi x8), (9, gi x9), (10, gi x10), (11, gi x11), (12, gi x12), (16, gi x16), (17, gi x17), (18, gi x18), (19, gi x19), (21, gr x21), (22, gi x22), (23, gi x23)] k n 284 []
  | 0, N, ad, ln, hN, k, n, A, x3, x4, x5, x6, x7, x8, x9, x10, x11, x12, x16, x17, x18, x19, x21, x22, x23, h => by cases h
  | f + 1, N, ad, ln, hN, k, n, A, x3, x4, x5, x6, x7, x8, x9, x10, x11, x12, x16, x17, x18, x19, x21, x22, x23, h => wL_law_b284 C CX hr hK84 (fun hN _ _ _ _ _ _ _ _ _ _ _ _ _ _ _ _ _ _ _ _ h => wL_law_L284 C CX hr hK84 f hN h) hN h
set_option maxHeartbeats 4000000 in
set_option maxRecDepth 20000 in
theorem wL_law_b272 (C : gC p room_1 s m #[Value.ref b] meth c cL_law RL 25 D g (fun q : Nat => s.heap.size ≤ q) 2048) (CX : gCP l s (fun q : Nat => s.heap.size ≤ q) b L xs) (hr : meth.sig.returnType = ret) {K84 : Nat → (Nat → Nat) → Nat → Nat → gM → Int32 → Int32 → Int32 → Int32 → Int32 → Int32 → Option (Unit)} (hK84 : ∀ {N : Nat} {ad ln : Nat → Nat} (hN : 183 ≤ N) {k n : Nat} {A : gM} {x3 : Int32} {x4 : Int32} {x5 : Int32} {x6 : Int32} {x7 : Int32} {x8 : Int32}, K84 N ln k n A x3 x4 x5 x6 x7 x8 = some () → gJ p l e room_1 s m #[Value.ref b] below meth c (lw_Z below #[Value.ref b] s) 25 D g (fun q : Nat => s.heap.size ≤ q) N ad ln A [(0, .inr (.ref b)), (1, gr 0), (3, gi x3), (4, gi x4), (5, gi x5), (6, gi x6), (7, gi x7), (8, gi x8)] k n 84 []) {N : Nat} {ad ln : Nat → Nat} (hN : 183 ≤ N) {k n : Nat} {A : gM} {x3 : Int32} {x4 : Int32} {x5 : Int32} {x6 : Int32} {x7 : Int32} {x8 : Int32} {x9 : Int32} {x10 : Int32} {x11 : Int32} {x12 : Int32} {x16 : Int32} {x17 : Int32} {x18 : Int32} {x19 : Int32} {x20 : Nat} (h : mL_law_b272 xs L K84 N ln k n A x3 x4 x5 x6 x7 x8 x9 x10 x11 x12 x16 x17 x18 x19 x20 = some ()) : gJ p l e room_1 s m #[Value.ref b] below meth c (lw_Z below #[Value.ref b] s) 25 D g (fun q : Nat => s.heap.size ≤ q) N ad ln A [(0, .inr (.ref b)), (1, gr 0), (3, gi x3), (4, gi x4), (5, gi x5), (6, gi x6), (7, gi x7), (8, gi x8), (9, gi x9), (10, gi x10), (11, gi x11), (12, gi x12), (16, gi x16), (17, gi x17), (18, gi x18), (19, gi x19), (20, gr x20)] k n 272 [] := by
  unfold mL_law_b272 at h
  refine g_aload C 16 dL_law_272 rfl ?_
  refine g_astore C dL_law_274 (by decide) rfl ?_
  refine g_aload C 0 dL_law_276 rfl ?_
  obtain ⟨hg1, h⟩ := g_gd h
  refine g_jlen C x20 hg1 dL_law_278 ?_
  obtain ⟨v2, ev2, h⟩ := g_lt h
  refine g_topi ev2 ?_
  refine g_istore C dL_law_279 (by decide) rfl ?_
  refine g_iconst (v := 0) C dL_law_281 (by decide) ?_
  refine g_istore C dL_law_282 (by decide) rfl ?_
  refine g_sub [3, 4, 5, 6, 7, 8, 9, 10, 11, 12, 13, 14, 15, 16, 17, 18, 2, 1, 0] rfl ?_
  exact wL_law_L284 C CX hr hK84 gF hN h

set_option maxHeartbeats 4000000 in
set_option maxRecDepth 20000 in
theorem wL_law_b252 (C : gC p room_1 s m #[Value.ref b] meth c cL_law RL 25 D g (fun q : Nat => s.heap.size ≤ q) 2048) (CX : gCP l s (fun q : Nat => s.heap.size ≤ q) b L xs) (hr : meth.sig.returnType = ret) {K84 : Nat → (Nat → Nat) → Nat → Nat → gM → Int32 → Int32 → Int32 → Int32 → Int32 → Int32 → Option (Unit)} (hK84 : ∀ {N : Nat} {ad ln : Nat → Nat} (hN : 183 ≤ N) {k n : Nat} {A : gM} {x3 : Int32} {x4 : Int32} {x5 : Int32} {x6 : Int32} {x7 : Int32} {x8 : Int32}, K84 N ln k n A x3 x4 x5 x6 x7 x8 = some () → gJ p l e room_1 s m #[Value.ref b] below meth c (lw_Z below #[Value.ref b] s) 25 D g (fun q : Nat => s.heap.size ≤ q) N ad ln A [(0, .inr (.ref b)), (1, gr 0), (3, gi x3), (4, gi x4), (5, gi x5), (6, gi x6), (7, gi x7), (8, gi x8)] k n 84 []) {N : Nat} {ad ln : Nat → Nat} (hN : 183 ≤ N) {k n : Nat} {A : gM} {x3 : Int32} {x4 : Int32} {x5 : Int32} {x6 : Int32} {x7 : Int32} {x8 : Int32} {x9 : Int32} {x10 : Int32} {x11 : Int32} {x12 : Int32} {x13 : Int32} {x14 : Int32} {x15 : Int32} {x16 : Int32} {x17 : Int32} {x18 : Int32} {x19 : Int32} (h : mL_law_b252 xs L K84 N ln k n A x3 x4 x5 x6 x7 x8 x9 x10 x11 x12 x13 x14 x15 x16 x17 x18 x19 = some ()) : gJ p l e room_1 s m #[Value.ref b] below meth c (lw_Z below #[Value.ref b] s) 25 D g (fun q : Nat => s.heap.size ≤ q) N ad ln A [(0, .inr (.ref b)), (1, gr 0), (3, gi x3), (4, gi x4), (5, gi x5), (6, gi x6), (7, gi x7), (8, gi x8), (9, gi x9), (10, gi x10), (11, gi x11), (12, gi x12), (13, gi x13), (14, gi x14), (15, gi x15), (16, gi x16), (17, gi x17), (18, gi x18), (19, gi x19)] k n 252 [] := by
  unfold mL_law_b252 at h
  refine g_iconst (v := 3) C dL_law_252 (by decide) ?_
  obtain ⟨⟨hg1a, hg1b⟩, h⟩ := g_gd h
  obtain ⟨N4, eN4, h⟩ := g_lt h
  obtain ⟨ln2, eln2, h⟩ := g_lt h
  obtain ⟨A3, eA3, h⟩ := g_lt h
  refine g_newJ C hN qa_int ⟨hg1a.2, rfl, hg1a.1⟩ hg1b ⟨(by omega), trivial⟩ trivial dL_law_253 (fun q => ?_)
  rw [eN4, eln2, eA3]
  have hgq : ∀ i, i < N → va_up ad N q i = ad i := g_up_o
  generalize va_up ad N q = ad at hgq ⊢
  have hN : 183 ≤ N4 := by omega
  refine g_dup_r C dL_law_255 ?_
  refine g_iconst (v := 0) C dL_law_256 (by decide) ?_
  refine g_iload C 12 dL_law_257 rfl ?_
  obtain ⟨hg5, h⟩ := g_gd h
  obtain ⟨A6, eA6, h⟩ := g_lt h
  refine g_jast C N hg5 eA6 dL_law_259 ?_
  refine g_dup_r C dL_law_260 ?_
  refine g_iconst (v := 1) C dL_law_261 (by decide) ?_
  refine g_iload C 13 dL_law_262 rfl ?_
  obtain ⟨hg7, h⟩ := g_gd h
  obtain ⟨A8, eA8, h⟩ := g_lt h
  refine g_jast C N hg7 eA8 dL_law_264 ?_
  refine g_dup_r C dL_law_265 ?_
  refine g_iconst (v := 2) C dL_law_266 (by decide) ?_
  refine g_iload C 14 dL_law_267 rfl ?_
  obtain ⟨hg9, h⟩ := g_gd h
  obtain ⟨A10, eA10, h⟩ := g_lt h
  refine g_jast C N hg9 eA10 dL_law_269 ?_
  refine g_astore C dL_law_270 (by decide) rfl ?_
  refine g_sub [1, 2, 3, 4, 5, 6, 7, 8, 9, 10, 11, 12, 16, 17, 18, 19, 0] rfl ?_
  exact wL_law_b272 C CX hr hK84 hN h

set_option maxHeartbeats 4000000 in
set_option maxRecDepth 20000 in
theorem wL_law_b233 (C : gC p room_1 s m #[Value.ref b] meth c cL_law RL 25 D g (fun q : Nat => s.heap.size ≤ q) 2048) (CX : gCP l s (fun q : Nat => s.heap.size ≤ q) b L xs) (hr : meth.sig.returnType = ret) {K84 : Nat → (Nat → Nat) → Nat → Nat → gM → Int32 → Int32 → Int32 → Int32 → Int32 → Int32 → Option (Unit)} (hK84 : ∀ {N : Nat} {ad ln : Nat → Nat} (hN : 183 ≤ N) {k n : Nat} {A : gM} {x3 : Int32} {x4 : Int32} {x5 : Int32} {x6 : Int32} {x7 : Int32} {x8 : Int32}, K84 N ln k n A x3 x4 x5 x6 x7 x8 = some () → gJ p l e room_1 s m #[Value.ref b] below meth c (lw_Z below #[Value.ref b] s) 25 D g (fun q : Nat => s.heap.size ≤ q) N ad ln A [(0, .inr (.ref b)), (1, gr 0), (3, gi x3), (4, gi x4), (5, gi x5), (6, gi x6), (7, gi x7), (8, gi x8)] k n 84 []) {N : Nat} {ad ln : Nat → Nat} (hN : 183 ≤ N) {k n : Nat} {A : gM} {x3 : Int32} {x4 : Int32} {x5 : Int32} {x6 : Int32} {x7 : Int32} {x8 : Int32} {x9 : Int32} {x10 : Int32} {x11 : Int32} {x12 : Int32} {x13 : Int32} {x14 : Int32} {x15 : Int32} {x16 : Int32} {x17 : Int32} {x18 : Int32} {x19 : Int32} (h : mL_law_b233 xs L K84 N ln k n A x3 x4 x5 x6 x7 x8 x9 x10 x11 x12 x13 x14 x15 x16 x17 x18 x19 = some ()) : gJ p l e room_1 s m #[Value.ref b] below meth c (lw_Z below #[Value.ref b] s) 25 D g (fun q : Nat => s.heap.size ≤ q) N ad ln A [(0, .inr (.ref b)), (1, gr 0), (3, gi x3), (4, gi x4), (5, gi x5), (6, gi x6), (7, gi x7), (8, gi x8), (9, gi x9), (10, gi x10), (11, gi x11), (12, gi x12), (13, gi x13), (14, gi x14), (15, gi x15), (16, gi x16), (17, gi x17), (18, gi x18), (19, gi x19)] k n 233 [] := by
  unfold mL_law_b233 at h
  refine g_iload C 12 dL_law_233 rfl ?_
  refine g_if_lt C dL_law_235 (tgt := 250) (by decide) (fun c1 => ?_) (fun c1 => ?_)
  · have h := g_tt c1 h
    refine g_sub [] rfl ?_
    exact wL_law_b250 C CX hr hN h
  · have h := g_ff c1 h
    refine g_iload C 18 dL_law_238 rfl ?_
    refine g_aload_n C 1 dL_law_240 rfl ?_
    refine g_iconst (v := 0) C dL_law_241 (by decide) ?_
    obtain ⟨hg3, h⟩ := g_gd h
    obtain ⟨A4, r5, eq2, h⟩ := g_cxx h
    refine g_callX C CX 0 [gi 0] (kX5_count hN CX.1 eq2) qs_L_105 (by omega) (by omega) rfl rfl rfl rfl (Nat.le_of_ble_eq_true rfl) hg3 dL_law_242 ?_
    refine g_iconst (v := 1) C dL_law_245 (by decide) ?_
    refine g_isub C dL_law_246 ?_
    refine g_icmp_eq C dL_law_247 (tgt := 252) (by decide) (fun c6 => ?_) (fun c6 => ?_)
    · have h := g_tt c6 h
      refine g_sub [0, 1, 2, 3, 4, 5, 6, 7, 8, 9, 10, 11, 12, 13, 14, 15, 16, 17, 18] rfl ?_
      exact wL_law_b252 C CX hr hK84 hN h
    · have h := g_ff c6 h
      refine g_sub [] rfl ?_
      exact wL_law_b250 C CX hr hN h

set_option maxHeartbeats 4000000 in
set_option maxRecDepth 20000 in
theorem wL_law_b224 (C : gC p room_1 s m #[Value.ref b] meth c cL_law RL 25 D g (fun q : Nat => s.heap.size ≤ q) 2048) (CX : gCP l s (fun q : Nat => s.heap.size ≤ q) b L xs) (hr : meth.sig.returnType = ret) {K84 : Nat → (Nat → Nat) → Nat → Nat → gM → Int32 → Int32 → Int32 → Int32 → Int32 → Int32 → Option (Unit)} (hK84 : ∀ {N : Nat} {ad ln : Nat → Nat} (hN : 183 ≤ N) {k n : Nat} {A : gM} {x3 : Int32} {x4 : Int32} {x5 : Int32} {x6 : Int32} {x7 : Int32} {x8 : Int32}, K84 N ln k n A x3 x4 x5 x6 x7 x8 = some () → gJ p l e room_1 s m #[Value.ref b] below meth c (lw_Z below #[Value.ref b] s) 25 D g (fun q : Nat => s.heap.size ≤ q) N ad ln A [(0, .inr (.ref b)), (1, gr 0), (3, gi x3), (4, gi x4), (5, gi x5), (6, gi x6), (7, gi x7), (8, gi x8)] k n 84 []) {N : Nat} {ad ln : Nat → Nat} (hN : 183 ≤ N) {k n : Nat} {A : gM} {x3 : Int32} {x4 : Int32} {x5 : Int32} {x6 : Int32} {x7 : Int32} {x8 : Int32} {x9 : Int32} {x10 : Int32} {x11 : Int32} {x12 : Int32} {x13 : Int32} {x14 : Int32} {x15 : Int32} {x16 : Int32} {x17 : Int32} {x18 : Int32} (h : mL_law_b224 xs L K84 N ln k n A x3 x4 x5 x6 x7 x8 x9 x10 x11 x12 x13 x14 x15 x16 x17 x18 = some ()) : gJ p l e room_1 s m #[Value.ref b] below meth c (lw_Z below #[Value.ref b] s) 25 D g (fun q : Nat => s.heap.size ≤ q) N ad ln A [(0, .inr (.ref b)), (1, gr 0), (3, gi x3), (4, gi x4), (5, gi x5), (6, gi x6), (7, gi x7), (8, gi x8), (9, gi x9), (10, gi x10), (11, gi x11), (12, gi x12), (13, gi x13), (14, gi x14), (15, gi x15), (16, gi x16), (17, gi x17), (18, gi x18)] k n 224 [] := by
  unfold mL_law_b224 at h
  refine g_aload_n C 1 dL_law_224 rfl ?_
  refine g_iload C 16 dL_law_225 rfl ?_
  refine g_iconst (v := 1) C dL_law_227 (by decide) ?_
  obtain ⟨hg2, h⟩ := g_gd h
  obtain ⟨A3, r4, eq1, h⟩ := g_cxx h
  refine g_callX C CX 0 [gi x17, gi 1] (kX5_end hN CX.1 eq1) qs_L_83 (by omega) (by omega) rfl rfl rfl rfl (Nat.le_of_ble_eq_true rfl) hg2 dL_law_228 ?_
  refine g_istore C dL_law_231 (by decide) rfl ?_
  refine g_sub [1, 2, 3, 4, 5, 6, 7, 8, 9, 10, 11, 12, 13, 14, 15, 16, 17, 18, 0] rfl ?_
  exact wL_law_b233 C CX hr hK84 hN h

set_option maxHeartbeats 4000000 in
set_option maxRecDepth 20000 in
theorem wL_law_b215 (C : gC p room_1 s m #[Value.ref b] meth c cL_law RL 25 D g (fun q : Nat => s.heap.size ≤ q) 2048) (CX : gCP l s (fun q : Nat => s.heap.size ≤ q) b L xs) (hr : meth.sig.returnType = ret) {K84 : Nat → (Nat → Nat) → Nat → Nat → gM → Int32 → Int32 → Int32 → Int32 → Int32 → Int32 → Option (Unit)} (hK84 : ∀ {N : Nat} {ad ln : Nat → Nat} (hN : 183 ≤ N) {k n : Nat} {A : gM} {x3 : Int32} {x4 : Int32} {x5 : Int32} {x6 : Int32} {x7 : Int32} {x8 : Int32}, K84 N ln k n A x3 x4 x5 x6 x7 x8 = some () → gJ p l e room_1 s m #[Value.ref b] below meth c (lw_Z below #[Value.ref b] s) 25 D g (fun q : Nat => s.heap.size ≤ q) N ad ln A [(0, .inr (.ref b)), (1, gr 0), (3, gi x3), (4, gi x4), (5, gi x5), (6, gi x6), (7, gi x7), (8, gi x8)] k n 84 []) {N : Nat} {ad ln : Nat → Nat} (hN : 183 ≤ N) {k n : Nat} {A : gM} {x3 : Int32} {x4 : Int32} {x5 : Int32} {x6 : Int32} {x7 : Int32} {x8 : Int32} {x9 : Int32} {x10 : Int32} {x11 : Int32} {x12 : Int32} {x13 : Int32} {x14 : Int32} {x15 : Int32} {x16 : Int32} {x17 : Int32} (h : mL_law_b215 xs L K84 N ln k n A x3 x4 x5 x6 x7 x8 x9 x10 x11 x12 x13 x14 x15 x16 x17 = some ()) : gJ p l e room_1 s m #[Value.ref b] below meth c (lw_Z below #[Value.ref b] s) 25 D g (fun q : Nat => s.heap.size ≤ q) N ad ln A [(0, .inr (.ref b)), (1, gr 0), (3, gi x3), (4, gi x4), (5, gi x5), (6, gi x6), (7, gi x7), (8, gi x8), (9, gi x9), (10, gi x10), (11, gi x11), (12, gi x12), (13, gi x13), (14, gi x14), (15, gi x15), (16, gi x16), (17, gi x17)] k n 215 [] := by
  unfold mL_law_b215 at h
  refine g_aload_n C 1 dL_law_215 rfl ?_
  refine g_iload C 16 dL_law_216 rfl ?_
  refine g_iconst (v := 0) C dL_law_218 (by decide) ?_
  obtain ⟨hg2, h⟩ := g_gd h
  obtain ⟨A3, r4, eq1, h⟩ := g_cxx h
  refine g_callX C CX 0 [gi x17, gi 0] (kX5_end hN CX.1 eq1) qs_L_83 (by omega) (by omega) rfl rfl rfl rfl (Nat.le_of_ble_eq_true rfl) hg2 dL_law_219 ?_
  refine g_istore C dL_law_222 (by decide) rfl ?_
  refine g_sub [1, 2, 3, 4, 5, 6, 7, 8, 9, 10, 11, 12, 13, 14, 15, 16, 17, 0] rfl ?_
  exact wL_law_b224 C CX hr hK84 hN h

set_option maxHeartbeats 4000000 in
set_option maxRecDepth 20000 in
theorem wL_law_b205 (C : gC p room_1 s m #[Value.ref b] meth c cL_law RL 25 D g (fun q : Nat => s.heap.size ≤ q) 2048) (CX : gCP l s (fun q : Nat => s.heap.size ≤ q) b L xs) (hr : meth.sig.returnType = ret) {K84 : Nat → (Nat → Nat) → Nat → Nat → gM → Int32 → Int32 → Int32 → Int32 → Int32 → Int32 → Option (Unit)} (hK84 : ∀ {N : Nat} {ad ln : Nat → Nat} (hN : 183 ≤ N) {k n : Nat} {A : gM} {x3 : Int32} {x4 : Int32} {x5 : Int32} {x6 : Int32} {x7 : Int32} {x8 : Int32}, K84 N ln k n A x3 x4 x5 x6 x7 x8 = some () → gJ p l e room_1 s m #[Value.ref b] below meth c (lw_Z below #[Value.ref b] s) 25 D g (fun q : Nat => s.heap.size ≤ q) N ad ln A [(0, .inr (.ref b)), (1, gr 0), (3, gi x3), (4, gi x4), (5, gi x5), (6, gi x6), (7, gi x7), (8, gi x8)] k n 84 []) {N : Nat} {ad ln : Nat → Nat} (hN : 183 ≤ N) {k n : Nat} {A : gM} {x3 : Int32} {x4 : Int32} {x5 : Int32} {x6 : Int32} {x7 : Int32} {x8 : Int32} {x9 : Int32} {x10 : Int32} {x11 : Int32} {x12 : Int32} {x13 : Int32} {x14 : Int32} {x15 : Int32} {x16 : Int32} (h : mL_law_b205 xs L K84 N ln k n A x3 x4 x5 x6 x7 x8 x9 x10 x11 x12 x13 x14 x15 x16 = some ()) : gJ p l e room_1 s m #[Value.ref b] below meth c (lw_Z below #[Value.ref b] s) 25 D g (fun q : Nat => s.heap.size ≤ q) N ad ln A [(0, .inr (.ref b)), (1, gr 0), (3, gi x3), (4, gi x4), (5, gi x5), (6, gi x6), (7, gi x7), (8, gi x8), (9, gi x9), (10, gi x10), (11, gi x11), (12, gi x12), (13, gi x13), (14, gi x14), (15, gi x15), (16, gi x16)] k n 205 [] := by
  unfold mL_law_b205 at h
  refine g_aload_n C 1 dL_law_205 rfl ?_
  refine g_iload C 8 dL_law_206 rfl ?_
  refine g_iload C 9 dL_law_208 rfl ?_
  obtain ⟨hg2, h⟩ := g_gd h
  obtain ⟨A3, r4, eq1, h⟩ := g_cxx h
  refine g_callX C CX 0 [gi x9, gi x10] (kX5_axle hN CX.1 eq1) qs_L_80 (by omega) (by omega) rfl rfl rfl rfl (Nat.le_of_ble_eq_true rfl) hg2 dL_law_210 ?_
  refine g_istore C dL_law_213 (by decide) rfl ?_
  refine g_sub [1, 2, 3, 4, 5, 6, 7, 8, 9, 10, 11, 12, 13, 14, 15, 16, 0] rfl ?_
  exact wL_law_b215 C CX hr hK84 hN h

set_option maxHeartbeats 4000000 in
set_option maxRecDepth 20000 in
theorem wL_law_b195 (C : gC p room_1 s m #[Value.ref b] meth c cL_law RL 25 D g (fun q : Nat => s.heap.size ≤ q) 2048) (CX : gCP l s (fun q : Nat => s.heap.size ≤ q) b L xs) (hr : meth.sig.returnType = ret) {K84 : Nat → (Nat → Nat) → Nat → Nat → gM → Int32 → Int32 → Int32 → Int32 → Int32 → Int32 → Option (Unit)} (hK84 : ∀ {N : Nat} {ad ln : Nat → Nat} (hN : 183 ≤ N) {k n : Nat} {A : gM} {x3 : Int32} {x4 : Int32} {x5 : Int32} {x6 : Int32} {x7 : Int32} {x8 : Int32}, K84 N ln k n A x3 x4 x5 x6 x7 x8 = some () → gJ p l e room_1 s m #[Value.ref b] below meth c (lw_Z below #[Value.ref b] s) 25 D g (fun q : Nat => s.heap.size ≤ q) N ad ln A [(0, .inr (.ref b)), (1, gr 0), (3, gi x3), (4, gi x4), (5, gi x5), (6, gi x6), (7, gi x7), (8, gi x8)] k n 84 []) {N : Nat} {ad ln : Nat → Nat} (hN : 183 ≤ N) {k n : Nat} {A : gM} {x3 : Int32} {x4 : Int32} {x5 : Int32} {x6 : Int32} {x7 : Int32} {x8 : Int32} {x9 : Int32} {x10 : Int32} {x11 : Int32} {x12 : Int32} {x13 : Int32} {x14 : Int32} {x15 : Int32} (h : mL_law_b195 xs L K84 N ln k n A x3 x4 x5 x6 x7 x8 x9 x10 x11 x12 x13 x14 x15 = some ()) : gJ p l e room_1 s m #[Value.ref b] below meth c (lw_Z below #[Value.ref b] s) 25 D g (fun q : Nat => s.heap.size ≤ q) N ad ln A [(0, .inr (.ref b)), (1, gr 0), (3, gi x3), (4, gi x4), (5, gi x5), (6, gi x6), (7, gi x7), (8, gi x8), (9, gi x9), (10, gi x10), (11, gi x11), (12, gi x12), (13, gi x13), (14, gi x14), (15, gi x15)] k n 195 [] := by
  unfold mL_law_b195 at h
  refine g_aload_n C 1 dL_law_195 rfl ?_
  refine g_iload C 3 dL_law_196 rfl ?_
  refine g_iload C 8 dL_law_198 rfl ?_
  obtain ⟨hg2, h⟩ := g_gd h
  obtain ⟨A3, r4, eq1, h⟩ := g_cxx h
  refine g_callX C CX 0 [gi x4, gi x9] (kX5_wheel hN CX.1 eq1) qs_L_70 (by omega) (by omega) rfl rfl rfl rfl (Nat.le_of_ble_eq_true rfl) hg2 dL_law_200 ?_
  refine g_istore C dL_law_203 (by decide) rfl ?_
  refine g_sub [1, 2, 3, 4, 5, 6, 7, 8, 9, 10, 11, 12, 13, 14, 15, 0] rfl ?_
  exact wL_law_b205 C CX hr hK84 hN h

set_option maxHeartbeats 4000000 in
set_option maxRecDepth 20000 in
theorem wL_law_b183 (C : gC p room_1 s m #[Value.ref b] meth c cL_law RL 25 D g (fun q : Nat => s.heap.size ≤ q) 2048) (CX : gCP l s (fun q : Nat => s.heap.size ≤ q) b L xs) (hr : meth.sig.returnType = ret) {K84 : Nat → (Nat → Nat) → Nat → Nat → gM → Int32 → Int32 → Int32 → Int32 → Int32 → Int32 → Option (Unit)} (hK84 : ∀ {N : Nat} {ad ln : Nat → Nat} (hN : 183 ≤ N) {k n : Nat} {A : gM} {x3 : Int32} {x4 : Int32} {x5 : Int32} {x6 : Int32} {x7 : Int32} {x8 : Int32}, K84 N ln k n A x3 x4 x5 x6 x7 x8 = some () → gJ p l e room_1 s m #[Value.ref b] below meth c (lw_Z below #[Value.ref b] s) 25 D g (fun q : Nat => s.heap.size ≤ q) N ad ln A [(0, .inr (.ref b)), (1, gr 0), (3, gi x3), (4, gi x4), (5, gi x5), (6, gi x6), (7, gi x7), (8, gi x8)] k n 84 []) {N : Nat} {ad ln : Nat → Nat} (hN : 183 ≤ N) {k n : Nat} {A : gM} {x3 : Int32} {x4 : Int32} {x5 : Int32} {x6 : Int32} {x7 : Int32} {x8 : Int32} {x9 : Int32} {x10 : Int32} {x11 : Int32} {x12 : Int32} {x13 : Int32} {x14 : Int32} (h : mL_law_b183 xs L K84 N ln k n A x3 x4 x5 x6 x7 x8 x9 x10 x11 x12 x13 x14 = some ()) : gJ p l e room_1 s m #[Value.ref b] below meth c (lw_Z below #[Value.ref b] s) 25 D g (fun q : Nat => s.heap.size ≤ q) N ad ln A [(0, .inr (.ref b)), (1, gr 0), (3, gi x3), (4, gi x4), (5, gi x5), (6, gi x6), (7, gi x7), (8, gi x8), (9, gi x9), (10, gi x10), (11, gi x11), (12, gi x12), (13, gi x13), (14, gi x14)] k n 183 [] := by
  unfold mL_law_b183 at h
  refine g_aload_n C 1 dL_law_183 rfl ?_
  refine g_iload C 6 dL_law_184 rfl ?_
  refine g_iload C 8 dL_law_186 rfl ?_
  refine g_iload C 8 dL_law_188 rfl ?_
  obtain ⟨hg2, h⟩ := g_gd h
  obtain ⟨A3, r4, eq1, h⟩ := g_cxx h
  refine g_callX C CX 0 [gi x7, gi x9, gi x9] (kX5_either hN CX.1 eq1) qs_L_86 (by omega) (by omega) rfl rfl rfl rfl (Nat.le_of_ble_eq_true rfl) hg2 dL_law_190 ?_
  refine g_istore C dL_law_193 (by decide) rfl ?_
  refine g_sub [1, 2, 3, 4, 5, 6, 7, 8, 9, 10, 11, 12, 13, 14, 0] rfl ?_
  exact wL_law_b195 C CX hr hK84 hN h

set_option maxHeartbeats 4000000 in
set_option maxRecDepth 20000 in
theorem wL_law_b171 (C : gC p room_1 s m #[Value.ref b] meth c cL_law RL 25 D g (fun q : Nat => s.heap.size ≤ q) 2048) (CX : gCP l s (fun q : Nat => s.heap.size ≤ q) b L xs) (hr : meth.sig.returnType = ret) {K84 : Nat → (Nat → Nat) → Nat → Nat → gM → Int32 → Int32 → Int32 → Int32 → Int32 → Int32 → Option (Unit)} (hK84 : ∀ {N : Nat} {ad ln : Nat → Nat} (hN : 183 ≤ N) {k n : Nat} {A : gM} {x3 : Int32} {x4 : Int32} {x5 : Int32} {x6 : Int32} {x7 : Int32} {x8 : Int32}, K84 N ln k n A x3 x4 x5 x6 x7 x8 = some () → gJ p l e room_1 s m #[Value.ref b] below meth c (lw_Z below #[Value.ref b] s) 25 D g (fun q : Nat => s.heap.size ≤ q) N ad ln A [(0, .inr (.ref b)), (1, gr 0), (3, gi x3), (4, gi x4), (5, gi x5), (6, gi x6), (7, gi x7), (8, gi x8)] k n 84 []) {N : Nat} {ad ln : Nat → Nat} (hN : 183 ≤ N) {k n : Nat} {A : gM} {x3 : Int32} {x4 : Int32} {x5 : Int32} {x6 : Int32} {x7 : Int32} {x8 : Int32} {x9 : Int32} {x10 : Int32} {x11 : Int32} {x12 : Int32} {x13 : Int32} (h : mL_law_b171 xs L K84 N ln k n A x3 x4 x5 x6 x7 x8 x9 x10 x11 x12 x13 = some ()) : gJ p l e room_1 s m #[Value.ref b] below meth c (lw_Z below #[Value.ref b] s) 25 D g (fun q : Nat => s.heap.size ≤ q) N ad ln A [(0, .inr (.ref b)), (1, gr 0), (3, gi x3), (4, gi x4), (5, gi x5), (6, gi x6), (7, gi x7), (8, gi x8), (9, gi x9), (10, gi x10), (11, gi x11), (12, gi x12), (13, gi x13)] k n 171 [] := by
  unfold mL_law_b171 at h
  refine g_aload_n C 1 dL_law_171 rfl ?_
  refine g_iload C 3 dL_law_172 rfl ?_
  refine g_iload C 8 dL_law_174 rfl ?_
  refine g_iload C 4 dL_law_176 rfl ?_
  obtain ⟨hg2, h⟩ := g_gd h
  obtain ⟨A3, r4, eq1, h⟩ := g_cxx h
  refine g_callX C CX 0 [gi x4, gi x9, gi x5] (kX5_tell hN CX.1 eq1) qs_L_76 (by omega) (by omega) rfl rfl rfl rfl (Nat.le_of_ble_eq_true rfl) hg2 dL_law_178 ?_
  refine g_istore C dL_law_181 (by decide) rfl ?_
  refine g_sub [1, 2, 3, 4, 5, 6, 7, 8, 9, 10, 11, 12, 13, 0] rfl ?_
  exact wL_law_b183 C CX hr hK84 hN h

set_option maxHeartbeats 4000000 in
set_option maxRecDepth 20000 in
theorem wL_law_b161 (C : gC p room_1 s m #[Value.ref b] meth c cL_law RL 25 D g (fun q : Nat => s.heap.size ≤ q) 2048) (CX : gCP l s (fun q : Nat => s.heap.size ≤ q) b L xs) (hr : meth.sig.returnType = ret) {K84 : Nat → (Nat → Nat) → Nat → Nat → gM → Int32 → Int32 → Int32 → Int32 → Int32 → Int32 → Option (Unit)} (hK84 : ∀ {N : Nat} {ad ln : Nat → Nat} (hN : 183 ≤ N) {k n : Nat} {A : gM} {x3 : Int32} {x4 : Int32} {x5 : Int32} {x6 : Int32} {x7 : Int32} {x8 : Int32}, K84 N ln k n A x3 x4 x5 x6 x7 x8 = some () → gJ p l e room_1 s m #[Value.ref b] below meth c (lw_Z below #[Value.ref b] s) 25 D g (fun q : Nat => s.heap.size ≤ q) N ad ln A [(0, .inr (.ref b)), (1, gr 0), (3, gi x3), (4, gi x4), (5, gi x5), (6, gi x6), (7, gi x7), (8, gi x8)] k n 84 []) {N : Nat} {ad ln : Nat → Nat} (hN : 183 ≤ N) {k n : Nat} {A : gM} {x3 : Int32} {x4 : Int32} {x5 : Int32} {x6 : Int32} {x7 : Int32} {x8 : Int32} {x9 : Int32} {x10 : Int32} {x11 : Int32} {x12 : Int32} (h : mL_law_b161 xs L K84 N ln k n A x3 x4 x5 x6 x7 x8 x9 x10 x11 x12 = some ()) : gJ p l e room_1 s m #[Value.ref b] below meth c (lw_Z below #[Value.ref b] s) 25 D g (fun q : Nat => s.heap.size ≤ q) N ad ln A [(0, .inr (.ref b)), (1, gr 0), (3, gi x3), (4, gi x4), (5, gi x5), (6, gi x6), (7, gi x7), (8, gi x8), (9, gi x9), (10, gi x10), (11, gi x11), (12, gi x12)] k n 161 [] := by
  unfold mL_law_b161 at h
  refine g_aload_n C 1 dL_law_161 rfl ?_
  refine g_iload C 5 dL_law_162 rfl ?_
  refine g_iload C 8 dL_law_164 rfl ?_
  obtain ⟨hg2, h⟩ := g_gd h
  obtain ⟨A3, r4, eq1, h⟩ := g_cxx h
  refine g_callX C CX 0 [gi x6, gi x9] (kX5_turn hN CX.1 eq1) qs_L_73 (by omega) (by omega) rfl rfl rfl rfl (Nat.le_of_ble_eq_true rfl) hg2 dL_law_166 ?_
  refine g_istore C dL_law_169 (by decide) rfl ?_
  refine g_sub [1, 2, 3, 4, 5, 6, 7, 8, 9, 10, 11, 12, 0] rfl ?_
  exact wL_law_b171 C CX hr hK84 hN h

set_option maxHeartbeats 4000000 in
set_option maxRecDepth 20000 in
theorem wL_law_b143 (C : gC p room_1 s m #[Value.ref b] meth c cL_law RL 25 D g (fun q : Nat => s.heap.size ≤ q) 2048) (CX : gCP l s (fun q : Nat => s.heap.size ≤ q) b L xs) (hr : meth.sig.returnType = ret) {K84 : Nat → (Nat → Nat) → Nat → Nat → gM → Int32 → Int32 → Int32 → Int32 → Int32 → Int32 → Option (Unit)} (hK84 : ∀ {N : Nat} {ad ln : Nat → Nat} (hN : 183 ≤ N) {k n : Nat} {A : gM} {x3 : Int32} {x4 : Int32} {x5 : Int32} {x6 : Int32} {x7 : Int32} {x8 : Int32}, K84 N ln k n A x3 x4 x5 x6 x7 x8 = some () → gJ p l e room_1 s m #[Value.ref b] below meth c (lw_Z below #[Value.ref b] s) 25 D g (fun q : Nat => s.heap.size ≤ q) N ad ln A [(0, .inr (.ref b)), (1, gr 0), (3, gi x3), (4, gi x4), (5, gi x5), (6, gi x6), (7, gi x7), (8, gi x8)] k n 84 []) {N : Nat} {ad ln : Nat → Nat} (hN : 183 ≤ N) {k n : Nat} {A : gM} {x3 : Int32} {x4 : Int32} {x5 : Int32} {x6 : Int32} {x7 : Int32} {x8 : Int32} {x9 : Int32} {x10 : Int32} (h : mL_law_b143 xs L K84 N ln k n A x3 x4 x5 x6 x7 x8 x9 x10 = some ()) : gJ p l e room_1 s m #[Value.ref b] below meth c (lw_Z below #[Value.ref b] s) 25 D g (fun q : Nat => s.heap.size ≤ q) N ad ln A [(0, .inr (.ref b)), (1, gr 0), (3, gi x3), (4, gi x4), (5, gi x5), (6, gi x6), (7, gi x7), (8, gi x8), (9, gi x9), (10, gi x10)] k n 143 [] := by
  unfold mL_law_b143 at h
  refine g_aload_n C 1 dL_law_143 rfl ?_
  refine g_iload C 8 dL_law_144 rfl ?_
  refine g_iconst (v := 0) C dL_law_146 (by decide) ?_
  obtain ⟨hg2, h⟩ := g_gd h
  obtain ⟨A3, r4, eq1, h⟩ := g_cxx h
  refine g_callX C CX 0 [gi x9, gi 0] (kX5_type hN CX.1 eq1) qs_L_44 (by omega) (by omega) rfl rfl rfl rfl (Nat.le_of_ble_eq_true rfl) hg2 dL_law_147 ?_
  refine g_istore C dL_law_150 (by decide) rfl ?_
  refine g_aload_n C 2 dL_law_152 rfl ?_
  refine g_iload C 9 dL_law_153 rfl ?_
  refine g_iconst (v := 1) C dL_law_155 (by decide) ?_
  obtain ⟨hg6, h⟩ := g_gd h
  obtain ⟨A7, r8, eq5, h⟩ := g_cxx h
  refine g_callX C CX 0 [gi x9, gi 1] (kX5_type hN CX.1 eq5) qs_L_44 (by omega) (by omega) rfl rfl rfl rfl (Nat.le_of_ble_eq_true rfl) hg6 dL_law_156 ?_
  refine g_istore C dL_law_159 (by decide) rfl ?_
  refine g_sub [2, 3, 4, 5, 6, 7, 8, 9, 10, 11, 1, 0] rfl ?_
  exact wL_law_b161 C CX hr hK84 hN h

set_option maxHeartbeats 4000000 in
set_option maxRecDepth 20000 in
theorem wL_law_b129 (C : gC p room_1 s m #[Value.ref b] meth c cL_law RL 25 D g (fun q : Nat => s.heap.size ≤ q) 2048) (CX : gCP l s (fun q : Nat => s.heap.size ≤ q) b L xs) (hr : meth.sig.returnType = ret) {K84 : Nat → (Nat → Nat) → Nat → Nat → gM → Int32 → Int32 → Int32 → Int32 → Int32 → Int32 → Option (Unit)} (hK84 : ∀ {N : Nat} {ad ln : Nat → Nat} (hN : 183 ≤ N) {k n : Nat} {A : gM} {x3 : Int32} {x4 : Int32} {x5 : Int32} {x6 : Int32} {x7 : Int32} {x8 : Int32}, K84 N ln k n A x3 x4 x5 x6 x7 x8 = some () → gJ p l e room_1 s m #[Value.ref b] below meth c (lw_Z below #[Value.ref b] s) 25 D g (fun q : Nat => s.heap.size ≤ q) N ad ln A [(0, .inr (.ref b)), (1, gr 0), (3, gi x3), (4, gi x4), (5, gi x5), (6, gi x6), (7, gi x7), (8, gi x8)] k n 84 []) {N : Nat} {ad ln : Nat → Nat} (hN : 183 ≤ N) {k n : Nat} {A : gM} {x3 : Int32} {x4 : Int32} {x5 : Int32} {x6 : Int32} {x7 : Int32} {x8 : Int32} {x9 : Int32} {x10 : Int32} (h : mL_law_b129 xs L K84 N ln k n A x3 x4 x5 x6 x7 x8 x9 x10 = some ()) : gJ p l e room_1 s m #[Value.ref b] below meth c (lw_Z below #[Value.ref b] s) 25 D g (fun q : Nat => s.heap.size ≤ q) N ad ln A [(0, .inr (.ref b)), (1, gr 0), (3, gi x3), (4, gi x4), (5, gi x5), (6, gi x6), (7, gi x7), (8, gi x8), (9, gi x9), (10, gi x10)] k n 129 [] := by
  unfold mL_law_b129 at h
  refine g_aload_n C 1 dL_law_129 rfl ?_
  refine g_iload C 9 dL_law_130 rfl ?_
  refine g_iconst (v := 5) C dL_law_132 (by decide) ?_
  obtain ⟨hg2, h⟩ := g_gd h
  obtain ⟨A3, r4, eq1, h⟩ := g_cxx h
  refine g_callX C CX 0 [gi x10, gi 5] (kX5_part hN CX.1 eq1) qs_L_52 (by omega) (by omega) rfl rfl rfl rfl (Nat.le_of_ble_eq_true rfl) hg2 dL_law_133 ?_
  refine g_bipush (v := 24) C dL_law_136 (by decide) ?_
  refine g_icmp_le C dL_law_138 (tgt := 143) (by decide) (fun c5 => ?_) (fun c5 => ?_)
  · have h := g_tt c5 h
    refine g_sub [0, 1, 2, 3, 4, 5, 6, 7, 8, 9] rfl ?_
    exact wL_law_b143 C CX hr hK84 hN h
  · have h := g_ff c5 h
    refine g_sub [] rfl ?_
    exact wL_law_b141 C CX hr hN h

set_option maxHeartbeats 4000000 in
set_option maxRecDepth 20000 in
theorem wL_law_b117 (C : gC p room_1 s m #[Value.ref b] meth c cL_law RL 25 D g (fun q : Nat => s.heap.size ≤ q) 2048) (CX : gCP l s (fun q : Nat => s.heap.size ≤ q) b L xs) (hr : meth.sig.returnType = ret) {K84 : Nat → (Nat → Nat) → Nat → Nat → gM → Int32 → Int32 → Int32 → Int32 → Int32 → Int32 → Option (Unit)} (hK84 : ∀ {N : Nat} {ad ln : Nat → Nat} (hN : 183 ≤ N) {k n : Nat} {A : gM} {x3 : Int32} {x4 : Int32} {x5 : Int32} {x6 : Int32} {x7 : Int32} {x8 : Int32}, K84 N ln k n A x3 x4 x5 x6 x7 x8 = some () → gJ p l e room_1 s m #[Value.ref b] below meth c (lw_Z below #[Value.ref b] s) 25 D g (fun q : Nat => s.heap.size ≤ q) N ad ln A [(0, .inr (.ref b)), (1, gr 0), (3, gi x3), (4, gi x4), (5, gi x5), (6, gi x6), (7, gi x7), (8, gi x8)] k n 84 []) {N : Nat} {ad ln : Nat → Nat} (hN : 183 ≤ N) {k n : Nat} {A : gM} {x3 : Int32} {x4 : Int32} {x5 : Int32} {x6 : Int32} {x7 : Int32} {x8 : Int32} {x9 : Int32} {x10 : Int32} (h : mL_law_b117 xs L K84 N ln k n A x3 x4 x5 x6 x7 x8 x9 x10 = some ()) : gJ p l e room_1 s m #[Value.ref b] below meth c (lw_Z below #[Value.ref b] s) 25 D g (fun q : Nat => s.heap.size ≤ q) N ad ln A [(0, .inr (.ref b)), (1, gr 0), (3, gi x3), (4, gi x4), (5, gi x5), (6, gi x6), (7, gi x7), (8, gi x8), (9, gi x9), (10, gi x10)] k n 117 [] := by
  unfold mL_law_b117 at h
  refine g_aload_n C 1 dL_law_117 rfl ?_
  refine g_iload C 8 dL_law_118 rfl ?_
  refine g_iconst (v := 5) C dL_law_120 (by decide) ?_
  obtain ⟨hg2, h⟩ := g_gd h
  obtain ⟨A3, r4, eq1, h⟩ := g_cxx h
  refine g_callX C CX 0 [gi x9, gi 5] (kX5_part hN CX.1 eq1) qs_L_52 (by omega) (by omega) rfl rfl rfl rfl (Nat.le_of_ble_eq_true rfl) hg2 dL_law_121 ?_
  refine g_bipush (v := 24) C dL_law_124 (by decide) ?_
  refine g_icmp_gt C dL_law_126 (tgt := 141) (by decide) (fun c5 => ?_) (fun c5 => ?_)
  · have h := g_tt c5 h
    refine g_sub [] rfl ?_
    exact wL_law_b141 C CX hr hN h
  · have h := g_ff c5 h
    refine g_sub [0, 1, 2, 3, 4, 5, 6, 7, 8, 9] rfl ?_
    exact wL_law_b129 C CX hr hK84 hN h

set_option maxHeartbeats 4000000 in
set_option maxRecDepth 20000 in
theorem wL_law_b103 (C : gC p room_1 s m #[Value.ref b] meth c cL_law RL 25 D g (fun q : Nat => s.heap.size ≤ q) 2048) (CX : gCP l s (fun q : Nat => s.heap.size ≤ q) b L xs) (hr : meth.sig.returnType = ret) {K84 : Nat → (Nat → Nat) → Nat → Nat → gM → Int32 → Int32 → Int32 → Int32 → Int32 → Int32 → Option (Unit)} (hK84 : ∀ {N : Nat} {ad ln : Nat → Nat} (hN : 183 ≤ N) {k n : Nat} {A : gM} {x3 : Int32} {x4 : Int32} {x5 : Int32} {x6 : Int32} {x7 : Int32} {x8 : Int32}, K84 N ln k n A x3 x4 x5 x6 x7 x8 = some () → gJ p l e room_1 s m #[Value.ref b] below meth c (lw_Z below #[Value.ref b] s) 25 D g (fun q : Nat => s.heap.size ≤ q) N ad ln A [(0, .inr (.ref b)), (1, gr 0), (3, gi x3), (4, gi x4), (5, gi x5), (6, gi x6), (7, gi x7), (8, gi x8)] k n 84 []) {N : Nat} {ad ln : Nat → Nat} (hN : 183 ≤ N) {k n : Nat} {A : gM} {x3 : Int32} {x4 : Int32} {x5 : Int32} {x6 : Int32} {x7 : Int32} {x8 : Int32} {x9 : Int32} (h : mL_law_b103 xs L K84 N ln k n A x3 x4 x5 x6 x7 x8 x9 = some ()) : gJ p l e room_1 s m #[Value.ref b] below meth c (lw_Z below #[Value.ref b] s) 25 D g (fun q : Nat => s.heap.size ≤ q) N ad ln A [(0, .inr (.ref b)), (1, gr 0), (3, gi x3), (4, gi x4), (5, gi x5), (6, gi x6), (7, gi x7), (8, gi x8), (9, gi x9)] k n 103 [] := by
  unfold mL_law_b103 at h
  refine g_aloadX_n C 0 dL_law_103 rfl ?_
  refine g_iload C 7 dL_law_104 rfl ?_
  obtain ⟨hg2a, h⟩ := g_gd h
  obtain ⟨N5, ln6, A4, r3, eq1, h⟩ := g_cpx h
  obtain ⟨hg2N, h⟩ := g_gd h
  refine g_callPi C CX [.inr (.ref b), gi x8] (kL_cell hN CX.1 eq1) qs_L_89 (by omega) rfl rfl (Nat.le_of_ble_eq_true rfl) hg2a ⟨(by omega), trivial⟩ trivial dL_law_106 (fun ad1 hgq => ?_)
  generalize ad1 = ad at hgq ⊢
  have hN : 183 ≤ N5 := by omega
  refine g_iconst (v := 3) C dL_law_109 (by decide) ?_
  refine g_ishr C dL_law_110 ?_
  refine g_iload_n C 2 dL_law_111 rfl ?_
  obtain ⟨hg8, h⟩ := g_gd h
  obtain ⟨q7, eq7, h⟩ := g_bd h
  refine g_calliS C [gi (r3 >>> (3 &&& 31)), gi x3] (kL_below hN eq7) qs_L_55 (by omega) rfl rfl (Nat.le_of_ble_eq_true rfl) hg8 dL_law_112 ?_
  refine g_istore C dL_law_115 (by decide) rfl ?_
  refine g_sub [1, 2, 3, 4, 5, 6, 7, 8, 9, 0] rfl ?_
  exact wL_law_b117 C CX hr hK84 hN h

set_option maxHeartbeats 4000000 in
set_option maxRecDepth 20000 in
theorem wL_law_b91 (C : gC p room_1 s m #[Value.ref b] meth c cL_law RL 25 D g (fun q : Nat => s.heap.size ≤ q) 2048) (CX : gCP l s (fun q : Nat => s.heap.size ≤ q) b L xs) (hr : meth.sig.returnType = ret) {K84 : Nat → (Nat → Nat) → Nat → Nat → gM → Int32 → Int32 → Int32 → Int32 → Int32 → Int32 → Option (Unit)} (hK84 : ∀ {N : Nat} {ad ln : Nat → Nat} (hN : 183 ≤ N) {k n : Nat} {A : gM} {x3 : Int32} {x4 : Int32} {x5 : Int32} {x6 : Int32} {x7 : Int32} {x8 : Int32}, K84 N ln k n A x3 x4 x5 x6 x7 x8 = some () → gJ p l e room_1 s m #[Value.ref b] below meth c (lw_Z below #[Value.ref b] s) 25 D g (fun q : Nat => s.heap.size ≤ q) N ad ln A [(0, .inr (.ref b)), (1, gr 0), (3, gi x3), (4, gi x4), (5, gi x5), (6, gi x6), (7, gi x7), (8, gi x8)] k n 84 []) {N : Nat} {ad ln : Nat → Nat} (hN : 183 ≤ N) {k n : Nat} {A : gM} {x3 : Int32} {x4 : Int32} {x5 : Int32} {x6 : Int32} {x7 : Int32} {x8 : Int32} (h : mL_law_b91 xs L K84 N ln k n A x3 x4 x5 x6 x7 x8 = some ()) : gJ p l e room_1 s m #[Value.ref b] below meth c (lw_Z below #[Value.ref b] s) 25 D g (fun q : Nat => s.heap.size ≤ q) N ad ln A [(0, .inr (.ref b)), (1, gr 0), (3, gi x3), (4, gi x4), (5, gi x5), (6, gi x6), (7, gi x7), (8, gi x8)] k n 91 [] := by
  unfold mL_law_b91 at h
  refine g_aloadX_n C 0 dL_law_91 rfl ?_
  refine g_iload C 7 dL_law_92 rfl ?_
  obtain ⟨hg2a, h⟩ := g_gd h
  obtain ⟨N5, ln6, A4, r3, eq1, h⟩ := g_cpx h
  obtain ⟨hg2N, h⟩ := g_gd h
  refine g_callPi C CX [.inr (.ref b), gi x8] (kL_cell hN CX.1 eq1) qs_L_89 (by omega) rfl rfl (Nat.le_of_ble_eq_true rfl) hg2a ⟨(by omega), trivial⟩ trivial dL_law_94 (fun ad1 hgq => ?_)
  generalize ad1 = ad at hgq ⊢
  have hN : 183 ≤ N5 := by omega
  refine g_iload_n C 2 dL_law_97 rfl ?_
  obtain ⟨hg8, h⟩ := g_gd h
  obtain ⟨q7, eq7, h⟩ := g_bd h
  refine g_calliS C [gi r3, gi x3] (kL_below hN eq7) qs_L_55 (by omega) rfl rfl (Nat.le_of_ble_eq_true rfl) hg8 dL_law_98 ?_
  refine g_istore C dL_law_101 (by decide) rfl ?_
  refine g_sub [1, 2, 3, 4, 5, 6, 7, 8, 0] rfl ?_
  exact wL_law_b103 C CX hr hK84 hN h

set_option maxHeartbeats 4000000 in
set_option maxRecDepth 20000 in
theorem wL_law_b84 (C : gC p room_1 s m #[Value.ref b] meth c cL_law RL 25 D g (fun q : Nat => s.heap.size ≤ q) 2048) (CX : gCP l s (fun q : Nat => s.heap.size ≤ q) b L xs) (hr : meth.sig.returnType = ret) {K84 : Nat → (Nat → Nat) → Nat → Nat → gM → Int32 → Int32 → Int32 → Int32 → Int32 → Int32 → Option (Unit)} (hK84 : ∀ {N : Nat} {ad ln : Nat → Nat} (hN : 183 ≤ N) {k n : Nat} {A : gM} {x3 : Int32} {x4 : Int32} {x5 : Int32} {x6 : Int32} {x7 : Int32} {x8 : Int32}, K84 N ln k n A x3 x4 x5 x6 x7 x8 = some () → gJ p l e room_1 s m #[Value.ref b] below meth c (lw_Z below #[Value.ref b] s) 25 D g (fun q : Nat => s.heap.size ≤ q) N ad ln A [(0, .inr (.ref b)), (1, gr 0), (3, gi x3), (4, gi x4), (5, gi x5), (6, gi x6), (7, gi x7), (8, gi x8)] k n 84 []) {N : Nat} {ad ln : Nat → Nat} (hN : 183 ≤ N) {k n : Nat} {A : gM} {x3 : Int32} {x4 : Int32} {x5 : Int32} {x6 : Int32} {x7 : Int32} {x8 : Int32} (h : mL_law_b84 xs L K84 N ln k n A x3 x4 x5 x6 x7 x8 = some ()) : gJ p l e room_1 s m #[Value.ref b] below meth c (lw_Z below #[Value.ref b] s) 25 D g (fun q : Nat => s.heap.size ≤ q) N ad ln A [(0, .inr (.ref b)), (1, gr 0), (3, gi x3), (4, gi x4), (5, gi x5), (6, gi x6), (7, gi x7), (8, gi x8)] k n 84 [] := by
  unfold mL_law_b84 at h
  refine g_iload C 7 dL_law_84 rfl ?_
  refine g_bipush (v := 16) C dL_law_86 (by decide) ?_
  refine g_icmp_ge C dL_law_88 (tgt := 880) (by decide) (fun c1 => ?_) (fun c1 => ?_)
  · have h := g_tt c1 h
    refine g_aload_n C 1 dL_law_880 rfl ?_
    refine g_iconst (v := 0) C dL_law_881 (by decide) ?_
    obtain ⟨hg3, h⟩ := g_gd h
    obtain ⟨A4, r5, eq2, h⟩ := g_cxx h
    refine g_callX C CX 0 [gi 0] (kX5_count hN CX.1 eq2) qs_L_105 (by omega) (by omega) rfl rfl rfl rfl (Nat.le_of_ble_eq_true rfl) hg3 dL_law_882 ?_
    refine g_iload_n C 2 dL_law_885 rfl ?_
    refine g_iconst (v := 3) C dL_law_886 (by decide) ?_
    refine g_iadd C dL_law_887 ?_
    refine g_icmp_ne C dL_law_888 (tgt := 895) (by decide) (fun c6 => ?_) (fun c6 => ?_)
    · have h := g_ff c6 h
      refine g_iconst (v := 0) C dL_law_895 (by decide) ?_
      refine g_sub [] rfl ?_
      exact wL_law_b896 C CX hr hN h
    · have h := g_tt c6 h
      refine g_iconst (v := 1) C dL_law_891 (by decide) ?_
      refine g_goto C dL_law_892 (tgt := 896) (by decide) ?_
      refine g_sub [] rfl ?_
      exact wL_law_b896 C CX hr hN h
  · have h := g_ff c1 h
    refine g_sub [0, 1, 2, 3, 4, 5, 6, 7] rfl ?_
    exact wL_law_b91 C CX hr hK84 hN h

set_option maxHeartbeats 4000000 in
set_option maxRecDepth 20000 in
theorem wL_law_L84 (C : gC p room_1 s m #[Value.ref b] meth c cL_law RL 25 D g (fun q : Nat => s.heap.size ≤ q) 2048) (CX : gCP l s (fun q : Nat => s.heap.size ≤ q) b L xs) (hr : meth.sig.returnType = ret)  : ∀ (f : Nat) {N : Nat} {ad ln : Nat → Nat} (hN : 183 ≤ N) {k n : Nat} {A : gM} {x3 : Int32} {x4 : Int32} {x5 : Int32} {x6 : Int32} {x7 : Int32} {x8 : Int32}, mL_law_L84 xs L f N ln k n A x3 x4 x5 x6 x7 x8 = some () → gJ p l e room_1 s m #[Value.ref b] below meth c (lw_Z below #[Value.ref b] s) 25 D g (fun q : Nat => s.heap.size ≤ q) N ad ln A [(0, .inr (.ref b)), (1, gr 0), (3, gi x3), (4, gi x4), (5, gi x5), (6, gi x6), (7, gi x7), (8, gi x8)] k n 84 []
  | 0, N, ad, ln, hN, k, n, A, x3, x4, x5, x6, x7, x8, h => by cases h
  | f + 1, N, ad, ln, hN, k, n, A, x3, x4, x5, x6, x7, x8, h => wL_law_b84 C CX hr (fun hN _ _ _ _ _ _ _ _ _ h => wL_law_L84 C CX hr f hN h) hN h
set_option maxHeartbeats 4000000 in
set_option maxRecDepth 20000 in
theorem wL_law_b74 (C : gC p room_1 s m #[Value.ref b] meth c cL_law RL 25 D g (fun q : Nat => s.heap.size ≤ q) 2048) (CX : gCP l s (fun q : Nat => s.heap.size ≤ q) b L xs) (hr : meth.sig.returnType = ret)  {N : Nat} {ad ln : Nat → Nat} (hN : 183 ≤ N) {k n : Nat} {A : gM} {x3 : Int32} {x4 : Int32} {x5 : Int32} {x6 : Int32} (h : mL_law_b74 xs L N ln k n A x3 x4 x5 x6 = some ()) : gJ p l e room_1 s m #[Value.ref b] below meth c (lw_Z below #[Value.ref b] s) 25 D g (fun q : Nat => s.heap.size ≤ q) N ad ln A [(0, .inr (.ref b)), (1, gr 0), (3, gi x3), (4, gi x4), (5, gi x5), (6, gi x6)] k n 74 [] := by
  unfold mL_law_b74 at h
  refine g_aload_n C 1 dL_law_74 rfl ?_
  refine g_iconst (v := 1) C dL_law_75 (by decide) ?_
  obtain ⟨hg2, h⟩ := g_gd h
  obtain ⟨A3, r4, eq1, h⟩ := g_cxx h
  refine g_callX C CX 0 [gi 1] (kX5_plain hN CX.1 eq1) qs_L_63 (by omega) (by omega) rfl rfl rfl rfl (Nat.le_of_ble_eq_true rfl) hg2 dL_law_76 ?_
  refine g_istore C dL_law_79 (by decide) rfl ?_
  refine g_iconst (v := 0) C dL_law_81 (by decide) ?_
  refine g_istore C dL_law_82 (by decide) rfl ?_
  refine g_sub [2, 3, 4, 5, 6, 7, 1, 0] rfl ?_
  exact wL_law_L84 C CX hr gF hN h

set_option maxHeartbeats 4000000 in
set_option maxRecDepth 20000 in
theorem wL_law_b64 (C : gC p room_1 s m #[Value.ref b] meth c cL_law RL 25 D g (fun q : Nat => s.heap.size ≤ q) 2048) (CX : gCP l s (fun q : Nat => s.heap.size ≤ q) b L xs) (hr : meth.sig.returnType = ret)  {N : Nat} {ad ln : Nat → Nat} (hN : 183 ≤ N) {k n : Nat} {A : gM} {x3 : Int32} {x4 : Int32} {x5 : Int32} (h : mL_law_b64 xs L N ln k n A x3 x4 x5 = some ()) : gJ p l e room_1 s m #[Value.ref b] below meth c (lw_Z below #[Value.ref b] s) 25 D g (fun q : Nat => s.heap.size ≤ q) N ad ln A [(0, .inr (.ref b)), (1, gr 0), (3, gi x3), (4, gi x4), (5, gi x5)] k n 64 [] := by
  unfold mL_law_b64 at h
  refine g_aload_n C 1 dL_law_64 rfl ?_
  refine g_iload C 3 dL_law_65 rfl ?_
  refine g_iload C 4 dL_law_67 rfl ?_
  obtain ⟨hg2, h⟩ := g_gd h
  obtain ⟨A3, r4, eq1, h⟩ := g_cxx h
  refine g_callX C CX 0 [gi x4, gi x5] (kX5_wheel hN CX.1 eq1) qs_L_70 (by omega) (by omega) rfl rfl rfl rfl (Nat.le_of_ble_eq_true rfl) hg2 dL_law_69 ?_
  refine g_istore C dL_law_72 (by decide) rfl ?_
  refine g_sub [1, 2, 3, 4, 5, 0] rfl ?_
  exact wL_law_b74 C CX hr hN h

set_option maxHeartbeats 4000000 in
set_option maxRecDepth 20000 in
theorem wL_law_b56 (C : gC p room_1 s m #[Value.ref b] meth c cL_law RL 25 D g (fun q : Nat => s.heap.size ≤ q) 2048) (CX : gCP l s (fun q : Nat => s.heap.size ≤ q) b L xs) (hr : meth.sig.returnType = ret)  {N : Nat} {ad ln : Nat → Nat} (hN : 183 ≤ N) {k n : Nat} {A : gM} {x3 : Int32} {x4 : Int32} (h : mL_law_b56 xs L N ln k n A x3 x4 = some ()) : gJ p l e room_1 s m #[Value.ref b] below meth c (lw_Z below #[Value.ref b] s) 25 D g (fun q : Nat => s.heap.size ≤ q) N ad ln A [(0, .inr (.ref b)), (1, gr 0), (3, gi x3), (4, gi x4)] k n 56 [] := by
  unfold mL_law_b56 at h
  refine g_aload_n C 1 dL_law_56 rfl ?_
  refine g_iload C 3 dL_law_57 rfl ?_
  obtain ⟨hg2, h⟩ := g_gd h
  obtain ⟨A3, r4, eq1, h⟩ := g_cxx h
  refine g_callX C CX 0 [gi x4] (kX5_name hN CX.1 eq1) qs_L_67 (by omega) (by omega) rfl rfl rfl rfl (Nat.le_of_ble_eq_true rfl) hg2 dL_law_59 ?_
  refine g_istore C dL_law_62 (by decide) rfl ?_
  refine g_sub [1, 2, 3, 4, 0] rfl ?_
  exact wL_law_b64 C CX hr hN h

set_option maxHeartbeats 4000000 in
set_option maxRecDepth 20000 in
theorem wL_law_b23 (C : gC p room_1 s m #[Value.ref b] meth c cL_law RL 25 D g (fun q : Nat => s.heap.size ≤ q) 2048) (CX : gCP l s (fun q : Nat => s.heap.size ≤ q) b L xs) (hr : meth.sig.returnType = ret) {K23 : Nat → (Nat → Nat) → Nat → Nat → gM → Int32 → Option (Unit)} (hK23 : ∀ {N : Nat} {ad ln : Nat → Nat} (hN : 183 ≤ N) {k n : Nat} {A : gM} {x3 : Int32}, K23 N ln k n A x3 = some () → gJ p l e room_1 s m #[Value.ref b] below meth c (lw_Z below #[Value.ref b] s) 25 D g (fun q : Nat => s.heap.size ≤ q) N ad ln A [(0, .inr (.ref b)), (1, gr 0), (3, gi x3)] k n 23 []) {N : Nat} {ad ln : Nat → Nat} (hN : 183 ≤ N) {k n : Nat} {A : gM} {x3 : Int32} (h : mL_law_b23 xs L K23 N ln k n A x3 = some ()) : gJ p l e room_1 s m #[Value.ref b] below meth c (lw_Z below #[Value.ref b] s) 25 D g (fun q : Nat => s.heap.size ≤ q) N ad ln A [(0, .inr (.ref b)), (1, gr 0), (3, gi x3)] k n 23 [] := by
  unfold mL_law_b23 at h
  refine g_iload_n C 2 dL_law_23 rfl ?_
  refine g_bipush (v := 24) C dL_law_24 (by decide) ?_
  refine g_icmp_le C dL_law_26 (tgt := 42) (by decide) (fun c1 => ?_) (fun c1 => ?_)
  · have h := g_tt c1 h
    refine g_iconst (v := 3) C dL_law_42 (by decide) ?_
    refine g_aloadX_n C 0 dL_law_43 rfl ?_
    refine g_iconst (v := 1) C dL_law_44 (by decide) ?_
    obtain ⟨hg3a, h⟩ := g_gd h
    obtain ⟨N6, ln7, A5, r4, eq2, h⟩ := g_cpx h
    obtain ⟨hg3N, h⟩ := g_gd h
    refine g_callPi C CX [.inr (.ref b), gi 1] (kL_cell hN CX.1 eq2) qs_L_89 (by omega) rfl rfl (Nat.le_of_ble_eq_true rfl) hg3a ⟨(by omega), trivial⟩ trivial dL_law_45 (fun ad1 hgq => ?_)
    generalize ad1 = ad at hgq ⊢
    have hN : 183 ≤ N6 := by omega
    refine g_bipush (v := 7) C dL_law_48 (by decide) ?_
    obtain ⟨hg9, h⟩ := g_gd h
    obtain ⟨q8, eq8, h⟩ := g_bd h
    refine g_calliS C [gi r4, gi 7] (kL_below hN eq8) qs_L_55 (by omega) rfl rfl (Nat.le_of_ble_eq_true rfl) hg9 dL_law_50 ?_
    refine g_iadd C dL_law_53 ?_
    obtain ⟨v10, ev10, h⟩ := g_lt h
    refine g_topi ev10 ?_
    refine g_istore C dL_law_54 (by decide) rfl ?_
    refine g_sub [1, 2, 3, 0] rfl ?_
    exact wL_law_b56 C CX hr hN h
  · have h := g_ff c1 h
    obtain ⟨v11, ev11, h⟩ := g_lt h
    refine g_iinc C 2 dL_law_29 rfl ev11 (by decide) rfl ?_
    refine g_aload_n C 2 dL_law_32 rfl ?_
    obtain ⟨hg13, h⟩ := g_gd h
    obtain ⟨A14, r15, eq12, h⟩ := g_cxx h
    refine g_callX C CX 0 [] (kX5_undo hN CX.1 eq12) qs_L_101 (by omega) (by omega) rfl rfl rfl rfl (Nat.le_of_ble_eq_true rfl) hg13 dL_law_33 ?_
    refine g_iload_n C 0 dL_law_36 rfl ?_
    refine g_icmp_eq C dL_law_37 (tgt := 23) (by decide) (fun c16 => ?_) (fun c16 => ?_)
    · have h := g_tt c16 h
      refine g_sub [1, 2, 0] rfl ?_
      exact hK23 hN h
    · have h := g_ff c16 h
      refine g_iconst (v := 0) C dL_law_40 (by decide) ?_
      cases h

set_option maxHeartbeats 4000000 in
set_option maxRecDepth 20000 in
theorem wL_law_L23 (C : gC p room_1 s m #[Value.ref b] meth c cL_law RL 25 D g (fun q : Nat => s.heap.size ≤ q) 2048) (CX : gCP l s (fun q : Nat => s.heap.size ≤ q) b L xs) (hr : meth.sig.returnType = ret)  : ∀ (f : Nat) {N : Nat} {ad ln : Nat → Nat} (hN : 183 ≤ N) {k n : Nat} {A : gM} {x3 : Int32}, mL_law_L23 xs L f N ln k n A x3 = some () → gJ p l e room_1 s m #[Value.ref b] below meth c (lw_Z below #[Value.ref b] s) 25 D g (fun q : Nat => s.heap.size ≤ q) N ad ln A [(0, .inr (.ref b)), (1, gr 0), (3, gi x3)] k n 23 []
  | 0, N, ad, ln, hN, k, n, A, x3, h => by cases h
  | f + 1, N, ad, ln, hN, k, n, A, x3, h => wL_law_b23 C CX hr (fun hN _ _ _ _ h => wL_law_L23 C CX hr f hN h) hN h
set_option maxHeartbeats 4000000 in
set_option maxRecDepth 20000 in
theorem wL_law_b8 (C : gC p room_1 s m #[Value.ref b] meth c cL_law RL 25 D g (fun q : Nat => s.heap.size ≤ q) 2048) (CX : gCP l s (fun q : Nat => s.heap.size ≤ q) b L xs) (hr : meth.sig.returnType = ret)  {N : Nat} {ad ln : Nat → Nat} (hN : 183 ≤ N) {k n : Nat} {A : gM} (h : mL_law_b8 xs L N ln k n A = some ()) : gJ p l e room_1 s m #[Value.ref b] below meth c (lw_Z below #[Value.ref b] s) 25 D g (fun q : Nat => s.heap.size ≤ q) N ad ln A [(0, .inr (.ref b)), (1, gr 0)] k n 8 [] := by
  unfold mL_law_b8 at h
  refine g_aload_n C 1 dL_law_8 rfl ?_
  refine g_aloadX_n C 0 dL_law_9 rfl ?_
  obtain ⟨hg2a, h⟩ := g_gd h
  obtain ⟨N5, ln6, A4, r3, eq1, h⟩ := g_cpx h
  obtain ⟨hg2N, h⟩ := g_gd h
  refine g_callPr C CX [gr 0, .inr (.ref b)] (kL_build hN CX.1 eq1) qs_L_97 (by omega) rfl rfl (Nat.le_of_ble_eq_true rfl) hg2a ⟨(by omega), trivial⟩ trivial dL_law_10 (fun ad1 hgq => ?_)
  generalize ad1 = ad at hgq ⊢
  have hN : 183 ≤ N5 := by omega
  refine g_astore_n C dL_law_13 (by decide) rfl ?_
  refine g_aload_n C 0 dL_law_14 rfl ?_
  refine g_ifnn C dL_law_15 (tgt := 20) (by decide) ?_
  refine g_aload_n C 0 dL_law_20 rfl ?_
  obtain ⟨hg7, h⟩ := g_gd h
  refine g_rlen C r3 hg7 dL_law_21 ?_
  obtain ⟨v8, ev8, h⟩ := g_lt h
  refine g_topi ev8 ?_
  refine g_istore_n C dL_law_22 (by decide) rfl ?_
  refine g_sub [2, 3, 0] rfl ?_
  exact wL_law_L23 C CX hr gF hN h

end L20
