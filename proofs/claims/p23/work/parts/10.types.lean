theorem qc_X4_47 : Cond.constant RX4 47 1000000 ∈ gtb := g_tb (List.mem_of_getElem? (i := 398) (by decide +kernel)) (by decide +kernel)
theorem qf_X4_11 : Cond.fieldLink RX4 11 (TX4 0).1 (TX4 0).2.1 (TX4 0).2.2.1 ∈ gtb := g_tb (List.mem_of_getElem? (i := 102) (by decide +kernel)) (by decide +kernel)
theorem qf_X4_15 : Cond.fieldLink RX4 15 (TX4 1).1 (TX4 1).2.1 (TX4 1).2.2.1 ∈ gtb := g_tb (List.mem_of_getElem? (i := 103) (by decide +kernel)) (by decide +kernel)
theorem qf_X4_18 : Cond.fieldLink RX4 18 (TX4 2).1 (TX4 2).2.1 (TX4 2).2.2.1 ∈ gtb := g_tb (List.mem_of_getElem? (i := 104) (by decide +kernel)) (by decide +kernel)
theorem qf_X4_21 : Cond.fieldLink RX4 21 (TX4 3).1 (TX4 3).2.1 (TX4 3).2.2.1 ∈ gtb := g_tb (List.mem_of_getElem? (i := 105) (by decide +kernel)) (by decide +kernel)
theorem qf_X4_24 : Cond.fieldLink RX4 24 (TX4 4).1 (TX4 4).2.1 (TX4 4).2.2.1 ∈ gtb := g_tb (List.mem_of_getElem? (i := 106) (by decide +kernel)) (by decide +kernel)
theorem qf_X4_27 : Cond.fieldLink RX4 27 (TX4 5).1 (TX4 5).2.1 (TX4 5).2.2.1 ∈ gtb := g_tb (List.mem_of_getElem? (i := 107) (by decide +kernel)) (by decide +kernel)
theorem qf_X4_30 : Cond.fieldLink RX4 30 (TX4 6).1 (TX4 6).2.1 (TX4 6).2.2.1 ∈ gtb := g_tb (List.mem_of_getElem? (i := 108) (by decide +kernel)) (by decide +kernel)
theorem qf_X4_36 : Cond.fieldLink RX4 36 (TX4 9).1 (TX4 9).2.1 (TX4 9).2.2.1 ∈ gtb := g_tb (List.mem_of_getElem? (i := 111) (by decide +kernel)) (by decide +kernel)
theorem qf_X4_44 : Cond.fieldLink RX4 44 (TX4 10).1 (TX4 10).2.1 (TX4 10).2.2.1 ∈ gtb := g_tb (List.mem_of_getElem? (i := 112) (by decide +kernel)) (by decide +kernel)
theorem qs_X4_40 : g_site RX4 RX4 40 yX4_make cX4_make 4 (some .int) 3 := ⟨g_tb (List.mem_of_getElem? (i := 308) (by decide +kernel)) (by decide +kernel), g_tb (List.mem_of_getElem? (i := 309) (by decide +kernel)) (by decide +kernel), g_tb (List.mem_of_getElem? (i := 310) (by decide +kernel)) (by decide +kernel), g_tb (List.mem_of_getElem? (i := 37) (by decide +kernel)) (by decide +kernel), g_tb (List.mem_of_getElem? (i := 311) (by decide +kernel)) (by decide +kernel), ⟨rfl, by decide, by decide, by decide +kernel⟩, by decide⟩
theorem qs_X4_48 : g_site RX4 RX4 48 yX4_resolve cX4_resolve 4 (some .int) 1 := ⟨g_tb (List.mem_of_getElem? (i := 403) (by decide +kernel)) (by decide +kernel), g_tb (List.mem_of_getElem? (i := 405) (by decide +kernel)) (by decide +kernel), g_tb (List.mem_of_getElem? (i := 14) (by decide +kernel)) (by decide +kernel), g_tb (List.mem_of_getElem? (i := 37) (by decide +kernel)) (by decide +kernel), g_tb (List.mem_of_getElem? (i := 406) (by decide +kernel)) (by decide +kernel), ⟨rfl, by decide, by decide, by decide +kernel⟩, by decide⟩
theorem qs_X4_52 : g_site RX4 RX4 52 yX4_isPair cX4_isPair 2 (some .boolean) 1 := ⟨g_tb (List.mem_of_getElem? (i := 349) (by decide +kernel)) (by decide +kernel), g_tb (List.mem_of_getElem? (i := 351) (by decide +kernel)) (by decide +kernel), g_tb (List.mem_of_getElem? (i := 8) (by decide +kernel)) (by decide +kernel), g_tb (List.mem_of_getElem? (i := 37) (by decide +kernel)) (by decide +kernel), g_tb (List.mem_of_getElem? (i := 352) (by decide +kernel)) (by decide +kernel), ⟨rfl, by decide, by decide, by decide +kernel⟩, by decide⟩
theorem qs_X4_56 : g_site RX4 RX4 56 yX4_putPair cX4_putPair 4 (some .int) 3 := ⟨g_tb (List.mem_of_getElem? (i := 394) (by decide +kernel)) (by decide +kernel), g_tb (List.mem_of_getElem? (i := 396) (by decide +kernel)) (by decide +kernel), g_tb (List.mem_of_getElem? (i := 12) (by decide +kernel)) (by decide +kernel), g_tb (List.mem_of_getElem? (i := 37) (by decide +kernel)) (by decide +kernel), g_tb (List.mem_of_getElem? (i := 397) (by decide +kernel)) (by decide +kernel), ⟨rfl, by decide, by decide, by decide +kernel⟩, by decide⟩
theorem qs_X4_59 : g_site RX4 RX4 59 yX4_give cX4_give 4 (none) 2 := ⟨g_tb (List.mem_of_getElem? (i := 399) (by decide +kernel)) (by decide +kernel), g_tb (List.mem_of_getElem? (i := 401) (by decide +kernel)) (by decide +kernel), g_tb (List.mem_of_getElem? (i := 13) (by decide +kernel)) (by decide +kernel), g_tb (List.mem_of_getElem? (i := 37) (by decide +kernel)) (by decide +kernel), g_tb (List.mem_of_getElem? (i := 402) (by decide +kernel)) (by decide +kernel), ⟨rfl, by decide, by decide, by decide +kernel⟩, by decide⟩
theorem qs_X4_63 : g_site RX4 RX4 63 yX4_forgetMarks cX4_forgetMarks 1 (none) 0 := ⟨g_tb (List.mem_of_getElem? (i := 407) (by decide +kernel)) (by decide +kernel), g_tb (List.mem_of_getElem? (i := 408) (by decide +kernel)) (by decide +kernel), g_tb (List.mem_of_getElem? (i := 409) (by decide +kernel)) (by decide +kernel), g_tb (List.mem_of_getElem? (i := 37) (by decide +kernel)) (by decide +kernel), g_tb (List.mem_of_getElem? (i := 410) (by decide +kernel)) (by decide +kernel), ⟨rfl, by decide, by decide, by decide +kernel⟩, by decide⟩
theorem qs_X4_66 : g_site RX4 RX4 66 yX4_markWithin cX4_markWithin 5 (none) 1 := ⟨g_tb (List.mem_of_getElem? (i := 411) (by decide +kernel)) (by decide +kernel), g_tb (List.mem_of_getElem? (i := 412) (by decide +kernel)) (by decide +kernel), g_tb (List.mem_of_getElem? (i := 413) (by decide +kernel)) (by decide +kernel), g_tb (List.mem_of_getElem? (i := 37) (by decide +kernel)) (by decide +kernel), g_tb (List.mem_of_getElem? (i := 414) (by decide +kernel)) (by decide +kernel), ⟨rfl, by decide, by decide, by decide +kernel⟩, by decide⟩
theorem gu_4 : ∀ w ∈ wsX40, w ∈ gtb := by decide +kernel
theorem dX4_make_0 : decode cX4_make 0 = .ok (.aload_n 0, 1) := by decide +kernel
theorem dX4_make_1 : decode cX4_make 1 = .ok (.getfield 36, 3) := by decide +kernel
theorem dX4_make_4 : decode cX4_make 4 = .ok (.ifCond .lt 13, 3) := by decide +kernel
theorem dX4_make_7 : decode cX4_make 7 = .ok (.aload_n 0, 1) := by decide +kernel
theorem dX4_make_8 : decode cX4_make 8 = .ok (.getfield 36, 3) := by decide +kernel
theorem dX4_make_11 : decode cX4_make 11 = .ok (.sipush 2600, 3) := by decide +kernel
theorem dX4_make_14 : decode cX4_make 14 = .ok (.if_icmp .lt 5, 3) := by decide +kernel
theorem dX4_make_17 : decode cX4_make 17 = .ok (.iconst 0, 1) := by decide +kernel
theorem dX4_make_18 : decode cX4_make 18 = .ok (.ireturn, 1) := by decide +kernel
theorem dX4_make_19 : decode cX4_make 19 = .ok (.aload_n 0, 1) := by decide +kernel
theorem dX4_make_20 : decode cX4_make 20 = .ok (.getfield 11, 3) := by decide +kernel
theorem dX4_make_23 : decode cX4_make 23 = .ok (.aload_n 0, 1) := by decide +kernel
theorem dX4_make_24 : decode cX4_make 24 = .ok (.getfield 36, 3) := by decide +kernel
theorem dX4_make_27 : decode cX4_make 27 = .ok (.iload_n 1, 1) := by decide +kernel
theorem dX4_make_28 : decode cX4_make 28 = .ok (.iastore, 1) := by decide +kernel
theorem dX4_make_29 : decode cX4_make 29 = .ok (.aload_n 0, 1) := by decide +kernel
theorem dX4_make_30 : decode cX4_make 30 = .ok (.getfield 15, 3) := by decide +kernel
theorem dX4_make_33 : decode cX4_make 33 = .ok (.aload_n 0, 1) := by decide +kernel
theorem dX4_make_34 : decode cX4_make 34 = .ok (.getfield 36, 3) := by decide +kernel
theorem dX4_make_37 : decode cX4_make 37 = .ok (.iload_n 2, 1) := by decide +kernel
theorem dX4_make_38 : decode cX4_make 38 = .ok (.iastore, 1) := by decide +kernel
theorem dX4_make_39 : decode cX4_make 39 = .ok (.aload_n 0, 1) := by decide +kernel
theorem dX4_make_40 : decode cX4_make 40 = .ok (.getfield 18, 3) := by decide +kernel
theorem dX4_make_43 : decode cX4_make 43 = .ok (.aload_n 0, 1) := by decide +kernel
theorem dX4_make_44 : decode cX4_make 44 = .ok (.getfield 36, 3) := by decide +kernel
theorem dX4_make_47 : decode cX4_make 47 = .ok (.iload_n 3, 1) := by decide +kernel
theorem dX4_make_48 : decode cX4_make 48 = .ok (.iastore, 1) := by decide +kernel
theorem dX4_make_49 : decode cX4_make 49 = .ok (.aload_n 0, 1) := by decide +kernel
theorem dX4_make_50 : decode cX4_make 50 = .ok (.dup, 1) := by decide +kernel
theorem dX4_make_51 : decode cX4_make 51 = .ok (.getfield 36, 3) := by decide +kernel
theorem dX4_make_54 : decode cX4_make 54 = .ok (.iconst 1, 1) := by decide +kernel
theorem dX4_make_55 : decode cX4_make 55 = .ok (.iadd, 1) := by decide +kernel
theorem dX4_make_56 : decode cX4_make 56 = .ok (.putfield 36, 3) := by decide +kernel
theorem dX4_make_59 : decode cX4_make 59 = .ok (.aload_n 0, 1) := by decide +kernel
theorem dX4_make_60 : decode cX4_make 60 = .ok (.getfield 36, 3) := by decide +kernel
theorem dX4_make_63 : decode cX4_make 63 = .ok (.iconst 1, 1) := by decide +kernel
theorem dX4_make_64 : decode cX4_make 64 = .ok (.isub, 1) := by decide +kernel
theorem dX4_make_65 : decode cX4_make 65 = .ok (.ireturn, 1) := by decide +kernel
theorem dX4_newVariable_0 : decode cX4_newVariable 0 = .ok (.aload_n 0, 1) := by decide +kernel
theorem dX4_newVariable_1 : decode cX4_newVariable 1 = .ok (.iconst 4, 1) := by decide +kernel
theorem dX4_newVariable_2 : decode cX4_newVariable 2 = .ok (.iconst (-1), 1) := by decide +kernel
theorem dX4_newVariable_3 : decode cX4_newVariable 3 = .ok (.iconst (-1), 1) := by decide +kernel
theorem dX4_newVariable_4 : decode cX4_newVariable 4 = .ok (.invokevirtual 40, 3) := by decide +kernel
theorem dX4_newVariable_7 : decode cX4_newVariable 7 = .ok (.ireturn, 1) := by decide +kernel
theorem dX4_codeOfNode_0 : decode cX4_codeOfNode 0 = .ok (.bipush 100, 2) := by decide +kernel
theorem dX4_codeOfNode_2 : decode cX4_codeOfNode 2 = .ok (.iload_n 1, 1) := by decide +kernel
theorem dX4_codeOfNode_3 : decode cX4_codeOfNode 3 = .ok (.iadd, 1) := by decide +kernel
theorem dX4_codeOfNode_4 : decode cX4_codeOfNode 4 = .ok (.ireturn, 1) := by decide +kernel
theorem dX4_forgetMarks_0 : decode cX4_forgetMarks 0 = .ok (.aload_n 0, 1) := by decide +kernel
theorem dX4_forgetMarks_1 : decode cX4_forgetMarks 1 = .ok (.dup, 1) := by decide +kernel
theorem dX4_forgetMarks_2 : decode cX4_forgetMarks 2 = .ok (.getfield 44, 3) := by decide +kernel
theorem dX4_forgetMarks_5 : decode cX4_forgetMarks 5 = .ok (.iconst 1, 1) := by decide +kernel
theorem dX4_forgetMarks_6 : decode cX4_forgetMarks 6 = .ok (.iadd, 1) := by decide +kernel
theorem dX4_forgetMarks_7 : decode cX4_forgetMarks 7 = .ok (.putfield 44, 3) := by decide +kernel
theorem dX4_forgetMarks_10 : decode cX4_forgetMarks 10 = .ok (.return_, 1) := by decide +kernel
theorem dX4_isNode_0 : decode cX4_isNode 0 = .ok (.iload_n 1, 1) := by decide +kernel
theorem dX4_isNode_1 : decode cX4_isNode 1 = .ok (.bipush 100, 2) := by decide +kernel
theorem dX4_isNode_3 : decode cX4_isNode 3 = .ok (.if_icmp .lt 7, 3) := by decide +kernel
theorem dX4_isNode_6 : decode cX4_isNode 6 = .ok (.iconst 1, 1) := by decide +kernel
theorem dX4_isNode_7 : decode cX4_isNode 7 = .ok (.goto 4, 3) := by decide +kernel
theorem dX4_isNode_10 : decode cX4_isNode 10 = .ok (.iconst 0, 1) := by decide +kernel
theorem dX4_isNode_11 : decode cX4_isNode 11 = .ok (.ireturn, 1) := by decide +kernel
theorem dX4_nodeOfCode_0 : decode cX4_nodeOfCode 0 = .ok (.iload_n 1, 1) := by decide +kernel
theorem dX4_nodeOfCode_1 : decode cX4_nodeOfCode 1 = .ok (.bipush 100, 2) := by decide +kernel
theorem dX4_nodeOfCode_3 : decode cX4_nodeOfCode 3 = .ok (.isub, 1) := by decide +kernel
theorem dX4_nodeOfCode_4 : decode cX4_nodeOfCode 4 = .ok (.ireturn, 1) := by decide +kernel
theorem dX4_isPair_0 : decode cX4_isPair 0 = .ok (.iload_n 1, 1) := by decide +kernel
theorem dX4_isPair_1 : decode cX4_isPair 1 = .ok (.iconst 2, 1) := by decide +kernel
theorem dX4_isPair_2 : decode cX4_isPair 2 = .ok (.if_icmp .eq 8, 3) := by decide +kernel
theorem dX4_isPair_5 : decode cX4_isPair 5 = .ok (.iload_n 1, 1) := by decide +kernel
theorem dX4_isPair_6 : decode cX4_isPair 6 = .ok (.iconst 3, 1) := by decide +kernel
theorem dX4_isPair_7 : decode cX4_isPair 7 = .ok (.if_icmp .ne 7, 3) := by decide +kernel
theorem dX4_isPair_10 : decode cX4_isPair 10 = .ok (.iconst 1, 1) := by decide +kernel
theorem dX4_isPair_11 : decode cX4_isPair 11 = .ok (.goto 4, 3) := by decide +kernel
theorem dX4_isPair_14 : decode cX4_isPair 14 = .ok (.iconst 0, 1) := by decide +kernel
theorem dX4_isPair_15 : decode cX4_isPair 15 = .ok (.ireturn, 1) := by decide +kernel
theorem dX4_resolve_0 : decode cX4_resolve 0 = .ok (.iload_n 1, 1) := by decide +kernel
theorem dX4_resolve_1 : decode cX4_resolve 1 = .ok (.istore_n 2, 1) := by decide +kernel
theorem dX4_resolve_2 : decode cX4_resolve 2 = .ok (.iconst 0, 1) := by decide +kernel
theorem dX4_resolve_3 : decode cX4_resolve 3 = .ok (.istore_n 3, 1) := by decide +kernel
theorem dX4_resolve_4 : decode cX4_resolve 4 = .ok (.iload_n 3, 1) := by decide +kernel
theorem dX4_resolve_5 : decode cX4_resolve 5 = .ok (.sipush 2600, 3) := by decide +kernel
theorem dX4_resolve_8 : decode cX4_resolve 8 = .ok (.if_icmp .ge 37, 3) := by decide +kernel
theorem dX4_resolve_11 : decode cX4_resolve 11 = .ok (.iload_n 2, 1) := by decide +kernel
theorem dX4_resolve_12 : decode cX4_resolve 12 = .ok (.ifCond .lt 33, 3) := by decide +kernel
theorem dX4_resolve_15 : decode cX4_resolve 15 = .ok (.iload_n 2, 1) := by decide +kernel
theorem dX4_resolve_16 : decode cX4_resolve 16 = .ok (.sipush 2600, 3) := by decide +kernel
theorem dX4_resolve_19 : decode cX4_resolve 19 = .ok (.if_icmp .ge 26, 3) := by decide +kernel
theorem dX4_resolve_22 : decode cX4_resolve 22 = .ok (.aload_n 0, 1) := by decide +kernel
theorem dX4_resolve_23 : decode cX4_resolve 23 = .ok (.getfield 11, 3) := by decide +kernel
theorem dX4_resolve_26 : decode cX4_resolve 26 = .ok (.iload_n 2, 1) := by decide +kernel
theorem dX4_resolve_27 : decode cX4_resolve 27 = .ok (.iaload, 1) := by decide +kernel
theorem dX4_resolve_28 : decode cX4_resolve 28 = .ok (.iconst 5, 1) := by decide +kernel
theorem dX4_resolve_29 : decode cX4_resolve 29 = .ok (.if_icmp .ne 16, 3) := by decide +kernel
theorem dX4_resolve_32 : decode cX4_resolve 32 = .ok (.aload_n 0, 1) := by decide +kernel
theorem dX4_resolve_33 : decode cX4_resolve 33 = .ok (.getfield 15, 3) := by decide +kernel
theorem dX4_resolve_36 : decode cX4_resolve 36 = .ok (.iload_n 2, 1) := by decide +kernel
theorem dX4_resolve_37 : decode cX4_resolve 37 = .ok (.iaload, 1) := by decide +kernel
theorem dX4_resolve_38 : decode cX4_resolve 38 = .ok (.istore_n 2, 1) := by decide +kernel
theorem dX4_resolve_39 : decode cX4_resolve 39 = .ok (.iinc 3 1, 3) := by decide +kernel
theorem dX4_resolve_42 : decode cX4_resolve 42 = .ok (.goto (-38), 3) := by decide +kernel
theorem dX4_resolve_45 : decode cX4_resolve 45 = .ok (.iload_n 2, 1) := by decide +kernel
theorem dX4_resolve_46 : decode cX4_resolve 46 = .ok (.ifCond .lt 14, 3) := by decide +kernel
theorem dX4_resolve_49 : decode cX4_resolve 49 = .ok (.iload_n 2, 1) := by decide +kernel
theorem dX4_resolve_50 : decode cX4_resolve 50 = .ok (.sipush 2600, 3) := by decide +kernel
theorem dX4_resolve_53 : decode cX4_resolve 53 = .ok (.if_icmp .ge 7, 3) := by decide +kernel
theorem dX4_resolve_56 : decode cX4_resolve 56 = .ok (.iload_n 2, 1) := by decide +kernel
theorem dX4_resolve_57 : decode cX4_resolve 57 = .ok (.goto 4, 3) := by decide +kernel
theorem dX4_resolve_60 : decode cX4_resolve 60 = .ok (.iconst 0, 1) := by decide +kernel
theorem dX4_resolve_61 : decode cX4_resolve 61 = .ok (.ireturn, 1) := by decide +kernel
theorem dX4_markWithin_0 : decode cX4_markWithin 0 = .ok (.iconst 1, 1) := by decide +kernel
theorem dX4_markWithin_1 : decode cX4_markWithin 1 = .ok (.istore_n 2, 1) := by decide +kernel
theorem dX4_markWithin_2 : decode cX4_markWithin 2 = .ok (.aload_n 0, 1) := by decide +kernel
theorem dX4_markWithin_3 : decode cX4_markWithin 3 = .ok (.getfield 24, 3) := by decide +kernel
theorem dX4_markWithin_6 : decode cX4_markWithin 6 = .ok (.iconst 0, 1) := by decide +kernel
theorem dX4_markWithin_7 : decode cX4_markWithin 7 = .ok (.iload_n 1, 1) := by decide +kernel
theorem dX4_markWithin_8 : decode cX4_markWithin 8 = .ok (.iastore, 1) := by decide +kernel
theorem dX4_markWithin_9 : decode cX4_markWithin 9 = .ok (.iconst 0, 1) := by decide +kernel
theorem dX4_markWithin_10 : decode cX4_markWithin 10 = .ok (.istore_n 3, 1) := by decide +kernel
theorem dX4_markWithin_11 : decode cX4_markWithin 11 = .ok (.iload_n 2, 1) := by decide +kernel
theorem dX4_markWithin_12 : decode cX4_markWithin 12 = .ok (.ifCond .le 109, 3) := by decide +kernel
theorem dX4_markWithin_15 : decode cX4_markWithin 15 = .ok (.iload_n 3, 1) := by decide +kernel
theorem dX4_markWithin_16 : decode cX4_markWithin 16 = .ok (.ldc 47, 2) := by decide +kernel
theorem dX4_markWithin_18 : decode cX4_markWithin 18 = .ok (.if_icmp .ge 103, 3) := by decide +kernel
theorem dX4_markWithin_21 : decode cX4_markWithin 21 = .ok (.iinc 2 (-1), 3) := by decide +kernel
theorem dX4_markWithin_24 : decode cX4_markWithin 24 = .ok (.aload_n 0, 1) := by decide +kernel
theorem dX4_markWithin_25 : decode cX4_markWithin 25 = .ok (.aload_n 0, 1) := by decide +kernel
theorem dX4_markWithin_26 : decode cX4_markWithin 26 = .ok (.getfield 24, 3) := by decide +kernel
theorem dX4_markWithin_29 : decode cX4_markWithin 29 = .ok (.iload_n 2, 1) := by decide +kernel
theorem dX4_markWithin_30 : decode cX4_markWithin 30 = .ok (.iaload, 1) := by decide +kernel
theorem dX4_markWithin_31 : decode cX4_markWithin 31 = .ok (.invokevirtual 48, 3) := by decide +kernel
theorem dX4_markWithin_34 : decode cX4_markWithin 34 = .ok (.istore 4, 2) := by decide +kernel
theorem dX4_markWithin_36 : decode cX4_markWithin 36 = .ok (.aload_n 0, 1) := by decide +kernel
theorem dX4_markWithin_37 : decode cX4_markWithin 37 = .ok (.getfield 21, 3) := by decide +kernel
theorem dX4_markWithin_40 : decode cX4_markWithin 40 = .ok (.iload 4, 2) := by decide +kernel
theorem dX4_markWithin_42 : decode cX4_markWithin 42 = .ok (.iaload, 1) := by decide +kernel
theorem dX4_markWithin_43 : decode cX4_markWithin 43 = .ok (.aload_n 0, 1) := by decide +kernel
theorem dX4_markWithin_44 : decode cX4_markWithin 44 = .ok (.getfield 44, 3) := by decide +kernel
theorem dX4_markWithin_47 : decode cX4_markWithin 47 = .ok (.if_icmp .eq 68, 3) := by decide +kernel
theorem dX4_markWithin_50 : decode cX4_markWithin 50 = .ok (.aload_n 0, 1) := by decide +kernel
theorem dX4_markWithin_51 : decode cX4_markWithin 51 = .ok (.getfield 21, 3) := by decide +kernel
theorem dX4_markWithin_54 : decode cX4_markWithin 54 = .ok (.iload 4, 2) := by decide +kernel
theorem dX4_markWithin_56 : decode cX4_markWithin 56 = .ok (.aload_n 0, 1) := by decide +kernel
theorem dX4_markWithin_57 : decode cX4_markWithin 57 = .ok (.getfield 44, 3) := by decide +kernel
theorem dX4_markWithin_60 : decode cX4_markWithin 60 = .ok (.iastore, 1) := by decide +kernel
theorem dX4_markWithin_61 : decode cX4_markWithin 61 = .ok (.aload_n 0, 1) := by decide +kernel
theorem dX4_markWithin_62 : decode cX4_markWithin 62 = .ok (.aload_n 0, 1) := by decide +kernel
theorem dX4_markWithin_63 : decode cX4_markWithin 63 = .ok (.getfield 11, 3) := by decide +kernel
theorem dX4_markWithin_66 : decode cX4_markWithin 66 = .ok (.iload 4, 2) := by decide +kernel
theorem dX4_markWithin_68 : decode cX4_markWithin 68 = .ok (.iaload, 1) := by decide +kernel
theorem dX4_markWithin_69 : decode cX4_markWithin 69 = .ok (.invokevirtual 52, 3) := by decide +kernel
theorem dX4_markWithin_72 : decode cX4_markWithin 72 = .ok (.ifCond .eq 43, 3) := by decide +kernel
theorem dX4_markWithin_75 : decode cX4_markWithin 75 = .ok (.iload_n 2, 1) := by decide +kernel
theorem dX4_markWithin_76 : decode cX4_markWithin 76 = .ok (.iconst 2, 1) := by decide +kernel
theorem dX4_markWithin_77 : decode cX4_markWithin 77 = .ok (.iadd, 1) := by decide +kernel
theorem dX4_markWithin_78 : decode cX4_markWithin 78 = .ok (.sipush 5208, 3) := by decide +kernel
theorem dX4_markWithin_81 : decode cX4_markWithin 81 = .ok (.if_icmp .gt 34, 3) := by decide +kernel
theorem dX4_markWithin_84 : decode cX4_markWithin 84 = .ok (.aload_n 0, 1) := by decide +kernel
theorem dX4_markWithin_85 : decode cX4_markWithin 85 = .ok (.getfield 24, 3) := by decide +kernel
theorem dX4_markWithin_88 : decode cX4_markWithin 88 = .ok (.iload_n 2, 1) := by decide +kernel
theorem dX4_markWithin_89 : decode cX4_markWithin 89 = .ok (.aload_n 0, 1) := by decide +kernel
theorem dX4_markWithin_90 : decode cX4_markWithin 90 = .ok (.getfield 18, 3) := by decide +kernel
theorem dX4_markWithin_93 : decode cX4_markWithin 93 = .ok (.iload 4, 2) := by decide +kernel
theorem dX4_markWithin_95 : decode cX4_markWithin 95 = .ok (.iaload, 1) := by decide +kernel
theorem dX4_markWithin_96 : decode cX4_markWithin 96 = .ok (.iastore, 1) := by decide +kernel
theorem dX4_markWithin_97 : decode cX4_markWithin 97 = .ok (.aload_n 0, 1) := by decide +kernel
theorem dX4_markWithin_98 : decode cX4_markWithin 98 = .ok (.getfield 24, 3) := by decide +kernel
theorem dX4_markWithin_101 : decode cX4_markWithin 101 = .ok (.iload_n 2, 1) := by decide +kernel
theorem dX4_markWithin_102 : decode cX4_markWithin 102 = .ok (.iconst 1, 1) := by decide +kernel
theorem dX4_markWithin_103 : decode cX4_markWithin 103 = .ok (.iadd, 1) := by decide +kernel
theorem dX4_markWithin_104 : decode cX4_markWithin 104 = .ok (.aload_n 0, 1) := by decide +kernel
theorem dX4_markWithin_105 : decode cX4_markWithin 105 = .ok (.getfield 15, 3) := by decide +kernel
theorem dX4_markWithin_108 : decode cX4_markWithin 108 = .ok (.iload 4, 2) := by decide +kernel
theorem dX4_markWithin_110 : decode cX4_markWithin 110 = .ok (.iaload, 1) := by decide +kernel
theorem dX4_markWithin_111 : decode cX4_markWithin 111 = .ok (.iastore, 1) := by decide +kernel
theorem dX4_markWithin_112 : decode cX4_markWithin 112 = .ok (.iinc 2 2, 3) := by decide +kernel
theorem dX4_markWithin_115 : decode cX4_markWithin 115 = .ok (.iinc 3 1, 3) := by decide +kernel
theorem dX4_markWithin_118 : decode cX4_markWithin 118 = .ok (.goto (-107), 3) := by decide +kernel
theorem dX4_markWithin_121 : decode cX4_markWithin 121 = .ok (.return_, 1) := by decide +kernel
theorem dX4_putPair_0 : decode cX4_putPair 0 = .ok (.iload_n 1, 1) := by decide +kernel
theorem dX4_putPair_1 : decode cX4_putPair 1 = .ok (.ifCond .lt 10, 3) := by decide +kernel
theorem dX4_putPair_4 : decode cX4_putPair 4 = .ok (.iload_n 1, 1) := by decide +kernel
theorem dX4_putPair_5 : decode cX4_putPair 5 = .ok (.sipush 5208, 3) := by decide +kernel
theorem dX4_putPair_8 : decode cX4_putPair 8 = .ok (.if_icmp .lt 5, 3) := by decide +kernel
theorem dX4_putPair_11 : decode cX4_putPair 11 = .ok (.iload_n 1, 1) := by decide +kernel
theorem dX4_putPair_12 : decode cX4_putPair 12 = .ok (.ireturn, 1) := by decide +kernel
theorem dX4_putPair_13 : decode cX4_putPair 13 = .ok (.aload_n 0, 1) := by decide +kernel
theorem dX4_putPair_14 : decode cX4_putPair 14 = .ok (.getfield 27, 3) := by decide +kernel
theorem dX4_putPair_17 : decode cX4_putPair 17 = .ok (.iload_n 1, 1) := by decide +kernel
theorem dX4_putPair_18 : decode cX4_putPair 18 = .ok (.iload_n 2, 1) := by decide +kernel
theorem dX4_putPair_19 : decode cX4_putPair 19 = .ok (.iastore, 1) := by decide +kernel
theorem dX4_putPair_20 : decode cX4_putPair 20 = .ok (.aload_n 0, 1) := by decide +kernel
theorem dX4_putPair_21 : decode cX4_putPair 21 = .ok (.getfield 30, 3) := by decide +kernel
theorem dX4_putPair_24 : decode cX4_putPair 24 = .ok (.iload_n 1, 1) := by decide +kernel
theorem dX4_putPair_25 : decode cX4_putPair 25 = .ok (.iload_n 3, 1) := by decide +kernel
theorem dX4_putPair_26 : decode cX4_putPair 26 = .ok (.iastore, 1) := by decide +kernel
theorem dX4_putPair_27 : decode cX4_putPair 27 = .ok (.iload_n 1, 1) := by decide +kernel
theorem dX4_putPair_28 : decode cX4_putPair 28 = .ok (.iconst 1, 1) := by decide +kernel
theorem dX4_putPair_29 : decode cX4_putPair 29 = .ok (.iadd, 1) := by decide +kernel
theorem dX4_putPair_30 : decode cX4_putPair 30 = .ok (.ireturn, 1) := by decide +kernel
theorem dX4_give_0 : decode cX4_give 0 = .ok (.aload_n 0, 1) := by decide +kernel
theorem dX4_give_1 : decode cX4_give 1 = .ok (.iload_n 2, 1) := by decide +kernel
theorem dX4_give_2 : decode cX4_give 2 = .ok (.invokevirtual 48, 3) := by decide +kernel
theorem dX4_give_5 : decode cX4_give 5 = .ok (.istore_n 3, 1) := by decide +kernel
theorem dX4_give_6 : decode cX4_give 6 = .ok (.iload_n 1, 1) := by decide +kernel
theorem dX4_give_7 : decode cX4_give 7 = .ok (.ifCond .lt 29, 3) := by decide +kernel
theorem dX4_give_10 : decode cX4_give 10 = .ok (.iload_n 1, 1) := by decide +kernel
theorem dX4_give_11 : decode cX4_give 11 = .ok (.sipush 2600, 3) := by decide +kernel
theorem dX4_give_14 : decode cX4_give 14 = .ok (.if_icmp .ge 22, 3) := by decide +kernel
theorem dX4_give_17 : decode cX4_give 17 = .ok (.iload_n 1, 1) := by decide +kernel
theorem dX4_give_18 : decode cX4_give 18 = .ok (.iload_n 3, 1) := by decide +kernel
theorem dX4_give_19 : decode cX4_give 19 = .ok (.if_icmp .eq 17, 3) := by decide +kernel
theorem dX4_give_22 : decode cX4_give 22 = .ok (.aload_n 0, 1) := by decide +kernel
theorem dX4_give_23 : decode cX4_give 23 = .ok (.getfield 11, 3) := by decide +kernel
theorem dX4_give_26 : decode cX4_give 26 = .ok (.iload_n 1, 1) := by decide +kernel
theorem dX4_give_27 : decode cX4_give 27 = .ok (.iconst 5, 1) := by decide +kernel
theorem dX4_give_28 : decode cX4_give 28 = .ok (.iastore, 1) := by decide +kernel
theorem dX4_give_29 : decode cX4_give 29 = .ok (.aload_n 0, 1) := by decide +kernel
theorem dX4_give_30 : decode cX4_give 30 = .ok (.getfield 15, 3) := by decide +kernel
theorem dX4_give_33 : decode cX4_give 33 = .ok (.iload_n 1, 1) := by decide +kernel
theorem dX4_give_34 : decode cX4_give 34 = .ok (.iload_n 3, 1) := by decide +kernel
theorem dX4_give_35 : decode cX4_give 35 = .ok (.iastore, 1) := by decide +kernel
theorem dX4_give_36 : decode cX4_give 36 = .ok (.return_, 1) := by decide +kernel
theorem dX4_match_0 : decode cX4_match 0 = .ok (.aload_n 0, 1) := by decide +kernel
theorem dX4_match_1 : decode cX4_match 1 = .ok (.iconst 0, 1) := by decide +kernel
theorem dX4_match_2 : decode cX4_match 2 = .ok (.iload_n 1, 1) := by decide +kernel
theorem dX4_match_3 : decode cX4_match 3 = .ok (.iload_n 2, 1) := by decide +kernel
theorem dX4_match_4 : decode cX4_match 4 = .ok (.invokevirtual 56, 3) := by decide +kernel
theorem dX4_match_7 : decode cX4_match 7 = .ok (.istore_n 3, 1) := by decide +kernel
theorem dX4_match_8 : decode cX4_match 8 = .ok (.iconst 0, 1) := by decide +kernel
theorem dX4_match_9 : decode cX4_match 9 = .ok (.istore 4, 2) := by decide +kernel
theorem dX4_match_11 : decode cX4_match 11 = .ok (.iload_n 3, 1) := by decide +kernel
theorem dX4_match_12 : decode cX4_match 12 = .ok (.ifCond .le 249, 3) := by decide +kernel
theorem dX4_match_15 : decode cX4_match 15 = .ok (.iload 4, 2) := by decide +kernel
theorem dX4_match_17 : decode cX4_match 17 = .ok (.ldc 47, 2) := by decide +kernel
theorem dX4_match_19 : decode cX4_match 19 = .ok (.if_icmp .ge 242, 3) := by decide +kernel
theorem dX4_match_22 : decode cX4_match 22 = .ok (.iinc 3 (-1), 3) := by decide +kernel
theorem dX4_match_25 : decode cX4_match 25 = .ok (.aload_n 0, 1) := by decide +kernel
theorem dX4_match_26 : decode cX4_match 26 = .ok (.getfield 27, 3) := by decide +kernel
theorem dX4_match_29 : decode cX4_match 29 = .ok (.iload_n 3, 1) := by decide +kernel
theorem dX4_match_30 : decode cX4_match 30 = .ok (.iaload, 1) := by decide +kernel
theorem dX4_match_31 : decode cX4_match 31 = .ok (.ifCond .ge 24, 3) := by decide +kernel
theorem dX4_match_34 : decode cX4_match 34 = .ok (.aload_n 0, 1) := by decide +kernel
theorem dX4_match_35 : decode cX4_match 35 = .ok (.iconst (-1), 1) := by decide +kernel
theorem dX4_match_36 : decode cX4_match 36 = .ok (.aload_n 0, 1) := by decide +kernel
theorem dX4_match_37 : decode cX4_match 37 = .ok (.getfield 27, 3) := by decide +kernel
theorem dX4_match_40 : decode cX4_match 40 = .ok (.iload_n 3, 1) := by decide +kernel
theorem dX4_match_41 : decode cX4_match 41 = .ok (.iaload, 1) := by decide +kernel
theorem dX4_match_42 : decode cX4_match 42 = .ok (.isub, 1) := by decide +kernel
theorem dX4_match_43 : decode cX4_match 43 = .ok (.aload_n 0, 1) := by decide +kernel
theorem dX4_match_44 : decode cX4_match 44 = .ok (.getfield 30, 3) := by decide +kernel
theorem dX4_match_47 : decode cX4_match 47 = .ok (.iload_n 3, 1) := by decide +kernel
theorem dX4_match_48 : decode cX4_match 48 = .ok (.iaload, 1) := by decide +kernel
theorem dX4_match_49 : decode cX4_match 49 = .ok (.invokevirtual 59, 3) := by decide +kernel
theorem dX4_match_52 : decode cX4_match 52 = .ok (.goto 203, 3) := by decide +kernel
theorem dX4_match_55 : decode cX4_match 55 = .ok (.aload_n 0, 1) := by decide +kernel
theorem dX4_match_56 : decode cX4_match 56 = .ok (.aload_n 0, 1) := by decide +kernel
theorem dX4_match_57 : decode cX4_match 57 = .ok (.getfield 27, 3) := by decide +kernel
theorem dX4_match_60 : decode cX4_match 60 = .ok (.iload_n 3, 1) := by decide +kernel
theorem dX4_match_61 : decode cX4_match 61 = .ok (.iaload, 1) := by decide +kernel
theorem dX4_match_62 : decode cX4_match 62 = .ok (.invokevirtual 48, 3) := by decide +kernel
theorem dX4_match_65 : decode cX4_match 65 = .ok (.istore 5, 2) := by decide +kernel
theorem dX4_match_67 : decode cX4_match 67 = .ok (.aload_n 0, 1) := by decide +kernel
theorem dX4_match_68 : decode cX4_match 68 = .ok (.aload_n 0, 1) := by decide +kernel
theorem dX4_match_69 : decode cX4_match 69 = .ok (.getfield 30, 3) := by decide +kernel
theorem dX4_match_72 : decode cX4_match 72 = .ok (.iload_n 3, 1) := by decide +kernel
theorem dX4_match_73 : decode cX4_match 73 = .ok (.iaload, 1) := by decide +kernel
theorem dX4_match_74 : decode cX4_match 74 = .ok (.invokevirtual 48, 3) := by decide +kernel
theorem dX4_match_77 : decode cX4_match 77 = .ok (.istore 6, 2) := by decide +kernel
theorem dX4_match_79 : decode cX4_match 79 = .ok (.iload 5, 2) := by decide +kernel
theorem dX4_match_81 : decode cX4_match 81 = .ok (.iload 6, 2) := by decide +kernel
theorem dX4_match_83 : decode cX4_match 83 = .ok (.if_icmp .ne 6, 3) := by decide +kernel
theorem dX4_match_86 : decode cX4_match 86 = .ok (.goto 169, 3) := by decide +kernel
theorem dX4_match_89 : decode cX4_match 89 = .ok (.aload_n 0, 1) := by decide +kernel
theorem dX4_match_90 : decode cX4_match 90 = .ok (.getfield 11, 3) := by decide +kernel
theorem dX4_match_93 : decode cX4_match 93 = .ok (.iload 5, 2) := by decide +kernel
theorem dX4_match_95 : decode cX4_match 95 = .ok (.iaload, 1) := by decide +kernel
theorem dX4_match_96 : decode cX4_match 96 = .ok (.iconst 4, 1) := by decide +kernel
theorem dX4_match_97 : decode cX4_match 97 = .ok (.if_icmp .eq 14, 3) := by decide +kernel
theorem dX4_match_100 : decode cX4_match 100 = .ok (.aload_n 0, 1) := by decide +kernel
theorem dX4_match_101 : decode cX4_match 101 = .ok (.getfield 11, 3) := by decide +kernel
theorem dX4_match_104 : decode cX4_match 104 = .ok (.iload 6, 2) := by decide +kernel
theorem dX4_match_106 : decode cX4_match 106 = .ok (.iaload, 1) := by decide +kernel
theorem dX4_match_107 : decode cX4_match 107 = .ok (.iconst 4, 1) := by decide +kernel
theorem dX4_match_108 : decode cX4_match 108 = .ok (.if_icmp .ne 76, 3) := by decide +kernel
theorem dX4_match_111 : decode cX4_match 111 = .ok (.aload_n 0, 1) := by decide +kernel
theorem dX4_match_112 : decode cX4_match 112 = .ok (.getfield 11, 3) := by decide +kernel
theorem dX4_match_115 : decode cX4_match 115 = .ok (.iload 5, 2) := by decide +kernel
theorem dX4_match_117 : decode cX4_match 117 = .ok (.iaload, 1) := by decide +kernel
theorem dX4_match_118 : decode cX4_match 118 = .ok (.iconst 4, 1) := by decide +kernel
theorem dX4_match_119 : decode cX4_match 119 = .ok (.if_icmp .ne 8, 3) := by decide +kernel
theorem dX4_match_122 : decode cX4_match 122 = .ok (.iload 5, 2) := by decide +kernel
theorem dX4_match_124 : decode cX4_match 124 = .ok (.goto 5, 3) := by decide +kernel
theorem dX4_match_127 : decode cX4_match 127 = .ok (.iload 6, 2) := by decide +kernel
theorem dX4_match_129 : decode cX4_match 129 = .ok (.istore 7, 2) := by decide +kernel
theorem dX4_match_131 : decode cX4_match 131 = .ok (.iload 7, 2) := by decide +kernel
theorem dX4_match_133 : decode cX4_match 133 = .ok (.iload 5, 2) := by decide +kernel
theorem dX4_match_135 : decode cX4_match 135 = .ok (.if_icmp .ne 8, 3) := by decide +kernel
theorem dX4_match_138 : decode cX4_match 138 = .ok (.iload 6, 2) := by decide +kernel
theorem dX4_match_140 : decode cX4_match 140 = .ok (.goto 5, 3) := by decide +kernel
theorem dX4_match_143 : decode cX4_match 143 = .ok (.iload 5, 2) := by decide +kernel
theorem dX4_match_145 : decode cX4_match 145 = .ok (.istore 8, 2) := by decide +kernel
theorem dX4_match_147 : decode cX4_match 147 = .ok (.aload_n 0, 1) := by decide +kernel
theorem dX4_match_148 : decode cX4_match 148 = .ok (.invokevirtual 63, 3) := by decide +kernel
theorem dX4_match_151 : decode cX4_match 151 = .ok (.aload_n 0, 1) := by decide +kernel
theorem dX4_match_152 : decode cX4_match 152 = .ok (.iload 8, 2) := by decide +kernel
theorem dX4_match_154 : decode cX4_match 154 = .ok (.invokevirtual 66, 3) := by decide +kernel
theorem dX4_match_157 : decode cX4_match 157 = .ok (.aload_n 0, 1) := by decide +kernel
theorem dX4_match_158 : decode cX4_match 158 = .ok (.getfield 21, 3) := by decide +kernel
theorem dX4_match_161 : decode cX4_match 161 = .ok (.iload 7, 2) := by decide +kernel
theorem dX4_match_163 : decode cX4_match 163 = .ok (.iaload, 1) := by decide +kernel
theorem dX4_match_164 : decode cX4_match 164 = .ok (.aload_n 0, 1) := by decide +kernel
theorem dX4_match_165 : decode cX4_match 165 = .ok (.getfield 44, 3) := by decide +kernel
theorem dX4_match_168 : decode cX4_match 168 = .ok (.if_icmp .ne 5, 3) := by decide +kernel
theorem dX4_match_171 : decode cX4_match 171 = .ok (.iconst 3, 1) := by decide +kernel
theorem dX4_match_172 : decode cX4_match 172 = .ok (.ireturn, 1) := by decide +kernel
theorem dX4_match_173 : decode cX4_match 173 = .ok (.aload_n 0, 1) := by decide +kernel
theorem dX4_match_174 : decode cX4_match 174 = .ok (.iload 7, 2) := by decide +kernel
theorem dX4_match_176 : decode cX4_match 176 = .ok (.iload 8, 2) := by decide +kernel
theorem dX4_match_178 : decode cX4_match 178 = .ok (.invokevirtual 59, 3) := by decide +kernel
theorem dX4_match_181 : decode cX4_match 181 = .ok (.goto 74, 3) := by decide +kernel
theorem dX4_match_184 : decode cX4_match 184 = .ok (.aload_n 0, 1) := by decide +kernel
theorem dX4_match_185 : decode cX4_match 185 = .ok (.getfield 11, 3) := by decide +kernel
theorem dX4_match_188 : decode cX4_match 188 = .ok (.iload 5, 2) := by decide +kernel
theorem dX4_match_190 : decode cX4_match 190 = .ok (.iaload, 1) := by decide +kernel
theorem dX4_match_191 : decode cX4_match 191 = .ok (.aload_n 0, 1) := by decide +kernel
theorem dX4_match_192 : decode cX4_match 192 = .ok (.getfield 11, 3) := by decide +kernel
theorem dX4_match_195 : decode cX4_match 195 = .ok (.iload 6, 2) := by decide +kernel
theorem dX4_match_197 : decode cX4_match 197 = .ok (.iaload, 1) := by decide +kernel
theorem dX4_match_198 : decode cX4_match 198 = .ok (.if_icmp .eq 5, 3) := by decide +kernel
theorem dX4_match_201 : decode cX4_match 201 = .ok (.iconst 2, 1) := by decide +kernel
theorem dX4_match_202 : decode cX4_match 202 = .ok (.ireturn, 1) := by decide +kernel
theorem dX4_match_203 : decode cX4_match 203 = .ok (.aload_n 0, 1) := by decide +kernel
theorem dX4_match_204 : decode cX4_match 204 = .ok (.iload_n 3, 1) := by decide +kernel
theorem dX4_match_205 : decode cX4_match 205 = .ok (.iconst (-1), 1) := by decide +kernel
theorem dX4_match_206 : decode cX4_match 206 = .ok (.iload 5, 2) := by decide +kernel
theorem dX4_match_208 : decode cX4_match 208 = .ok (.isub, 1) := by decide +kernel
theorem dX4_match_209 : decode cX4_match 209 = .ok (.iload 6, 2) := by decide +kernel
theorem dX4_match_211 : decode cX4_match 211 = .ok (.invokevirtual 56, 3) := by decide +kernel
theorem dX4_match_214 : decode cX4_match 214 = .ok (.istore_n 3, 1) := by decide +kernel
theorem dX4_match_215 : decode cX4_match 215 = .ok (.aload_n 0, 1) := by decide +kernel
theorem dX4_match_216 : decode cX4_match 216 = .ok (.iload_n 3, 1) := by decide +kernel
theorem dX4_match_217 : decode cX4_match 217 = .ok (.aload_n 0, 1) := by decide +kernel
theorem dX4_match_218 : decode cX4_match 218 = .ok (.getfield 18, 3) := by decide +kernel
theorem dX4_match_221 : decode cX4_match 221 = .ok (.iload 5, 2) := by decide +kernel
theorem dX4_match_223 : decode cX4_match 223 = .ok (.iaload, 1) := by decide +kernel
theorem dX4_match_224 : decode cX4_match 224 = .ok (.aload_n 0, 1) := by decide +kernel
theorem dX4_match_225 : decode cX4_match 225 = .ok (.getfield 18, 3) := by decide +kernel
theorem dX4_match_228 : decode cX4_match 228 = .ok (.iload 6, 2) := by decide +kernel
theorem dX4_match_230 : decode cX4_match 230 = .ok (.iaload, 1) := by decide +kernel
theorem dX4_match_231 : decode cX4_match 231 = .ok (.invokevirtual 56, 3) := by decide +kernel
theorem dX4_match_234 : decode cX4_match 234 = .ok (.istore_n 3, 1) := by decide +kernel
theorem dX4_match_235 : decode cX4_match 235 = .ok (.aload_n 0, 1) := by decide +kernel
theorem dX4_match_236 : decode cX4_match 236 = .ok (.iload_n 3, 1) := by decide +kernel
theorem dX4_match_237 : decode cX4_match 237 = .ok (.aload_n 0, 1) := by decide +kernel
theorem dX4_match_238 : decode cX4_match 238 = .ok (.getfield 15, 3) := by decide +kernel
theorem dX4_match_241 : decode cX4_match 241 = .ok (.iload 5, 2) := by decide +kernel
theorem dX4_match_243 : decode cX4_match 243 = .ok (.iaload, 1) := by decide +kernel
theorem dX4_match_244 : decode cX4_match 244 = .ok (.aload_n 0, 1) := by decide +kernel
theorem dX4_match_245 : decode cX4_match 245 = .ok (.getfield 15, 3) := by decide +kernel
theorem dX4_match_248 : decode cX4_match 248 = .ok (.iload 6, 2) := by decide +kernel
theorem dX4_match_250 : decode cX4_match 250 = .ok (.iaload, 1) := by decide +kernel
theorem dX4_match_251 : decode cX4_match 251 = .ok (.invokevirtual 56, 3) := by decide +kernel
theorem dX4_match_254 : decode cX4_match 254 = .ok (.istore_n 3, 1) := by decide +kernel
theorem dX4_match_255 : decode cX4_match 255 = .ok (.iinc 4 1, 3) := by decide +kernel
theorem dX4_match_258 : decode cX4_match 258 = .ok (.goto (-247), 3) := by decide +kernel
theorem dX4_match_261 : decode cX4_match 261 = .ok (.iconst 0, 1) := by decide +kernel
theorem dX4_match_262 : decode cX4_match 262 = .ok (.ireturn, 1) := by decide +kernel
section T4
variable {p : Program} {l : Launch} {e : Env} {R : Room} {s : State} {m : MethodId} {args : Array Value} {below : List Frame} {meth : Method} {c : Code} {D : va_G} {g : gT} {N : Nat} {ad ln : Nat → Nat}
def mX4_make_b17 (A : gM) : Option (gM × Int32) :=
  some (A, 0)
def mX4_make_b0 (A : gM) (x1 : Int32) (x2 : Int32) (x3 : Int32) : Option (gM × Int32) :=
  if (A 129 9) < 0 then
  mX4_make_b17 A
  else
  if (A 129 9) < 2600 then
  if g_in (A 129 9) 2600 = true then g_let (g_up A 130 (A 129 9).toNatClampNeg x1) fun A4 =>
  if g_in (A4 129 9) 2600 = true then g_let (g_up A4 131 (A4 129 9).toNatClampNeg x2) fun A6 =>
  if g_in (A6 129 9) 2600 = true then g_let (g_up A6 132 (A6 129 9).toNatClampNeg x3) fun A8 =>
  g_let (g_up A8 129 9 ((A8 129 9) + 1)) fun A9 =>
  some (A9, ((A9 129 9) - 1))
  else none
  else none
  else none
  else
  mX4_make_b17 A
def mX4_make (A : gM) (x1 : Int32) (x2 : Int32) (x3 : Int32) : Option (gM × Int32) := mX4_make_b0 A x1 x2 x3
set_option maxHeartbeats 2000000 in
set_option maxRecDepth 20000 in
theorem wX4_make_b17 (hN : 183 ≤ N) {A0 A' : gM} {r : Int32} (C : gC p R s m args meth c cX4_make RX4 4 D g (va_A (gw g ad ln A0 N) s.heap.size) 0) (hr : meth.sig.returnType = some .int)  {A : gM} (h : mX4_make_b17 A = some (A', r)) : gJ p l e R s m args below meth c (gEi below D g N ad ln A0 A' r args s) 4 D g (va_A (gw g ad ln A0 N) s.heap.size) N ad ln A [] 0 0 17 [] := by
  unfold mX4_make_b17 at h
  refine g_iconst (v := 0) C dX4_make_17 (by decide) ?_
  obtain ⟨rfl, rfl⟩ := Prod.mk.inj (Option.some.inj h)
  exact g_reti C hr dX4_make_18

set_option maxHeartbeats 2000000 in
set_option maxRecDepth 20000 in
theorem wX4_make_b0 (hN : 183 ≤ N) {A0 A' : gM} {r : Int32} (C : gC p R s m args meth c cX4_make RX4 4 D g (va_A (gw g ad ln A0 N) s.heap.size) 0) (hr : meth.sig.returnType = some .int)  {A : gM} {x1 : Int32} {x2 : Int32} {x3 : Int32} (h : mX4_make_b0 A x1 x2 x3 = some (A', r)) : gJ p l e R s m args below meth c (gEi below D g N ad ln A0 A' r args s) 4 D g (va_A (gw g ad ln A0 N) s.heap.size) N ad ln A [(0, gr 129), (1, gi x1), (2, gi x2), (3, gi x3)] 0 0 0 [] := by
  unfold mX4_make_b0 at h
  refine g_aload_n C 0 dX4_make_0 rfl ?_
  refine g_get (v := gi (A 129 9)) C 129 9 (by omega) rfl rfl gu_4 (by decide) qf_X4_36 rfl dX4_make_1 ?_
  refine g_if_lt C dX4_make_4 (tgt := 17) (by decide) (fun c1 => ?_) (fun c1 => ?_)
  · have h := g_tt c1 h
    refine g_sub [] rfl ?_
    exact wX4_make_b17 hN C hr h
  · have h := g_ff c1 h
    refine g_aload_n C 0 dX4_make_7 rfl ?_
    refine g_get (v := gi (A 129 9)) C 129 9 (by omega) rfl rfl gu_4 (by decide) qf_X4_36 rfl dX4_make_8 ?_
    refine g_sipush (v := 2600) C dX4_make_11 (by decide) ?_
    refine g_icmp_lt C dX4_make_14 (tgt := 19) (by decide) (fun c2 => ?_) (fun c2 => ?_)
    · have h := g_tt c2 h
      refine g_aload_n C 0 dX4_make_19 rfl ?_
      refine g_get (v := gr 130) C 129 0 (by omega) rfl rfl gu_4 (by decide) qf_X4_11 rfl dX4_make_20 ?_
      refine g_aload_n C 0 dX4_make_23 rfl ?_
      refine g_get (v := gi (A 129 9)) C 129 9 (by omega) rfl rfl gu_4 (by decide) qf_X4_36 rfl dX4_make_24 ?_
      refine g_iload_n C 1 dX4_make_27 rfl ?_
      obtain ⟨hg3, h⟩ := g_gd h
      obtain ⟨A4, eA4, h⟩ := g_lt h
      refine g_iast C 130 (by omega) rfl rfl hg3 eA4 dX4_make_28 ?_
      refine g_aload_n C 0 dX4_make_29 rfl ?_
      refine g_get (v := gr 131) C 129 1 (by omega) rfl rfl gu_4 (by decide) qf_X4_15 rfl dX4_make_30 ?_
      refine g_aload_n C 0 dX4_make_33 rfl ?_
      refine g_get (v := gi (A4 129 9)) C 129 9 (by omega) rfl rfl gu_4 (by decide) qf_X4_36 rfl dX4_make_34 ?_
      refine g_iload_n C 2 dX4_make_37 rfl ?_
      obtain ⟨hg5, h⟩ := g_gd h
      obtain ⟨A6, eA6, h⟩ := g_lt h
      refine g_iast C 131 (by omega) rfl rfl hg5 eA6 dX4_make_38 ?_
      refine g_aload_n C 0 dX4_make_39 rfl ?_
      refine g_get (v := gr 132) C 129 2 (by omega) rfl rfl gu_4 (by decide) qf_X4_18 rfl dX4_make_40 ?_
      refine g_aload_n C 0 dX4_make_43 rfl ?_
      refine g_get (v := gi (A6 129 9)) C 129 9 (by omega) rfl rfl gu_4 (by decide) qf_X4_36 rfl dX4_make_44 ?_
      refine g_iload_n C 3 dX4_make_47 rfl ?_
      obtain ⟨hg7, h⟩ := g_gd h
      obtain ⟨A8, eA8, h⟩ := g_lt h
      refine g_iast C 132 (by omega) rfl rfl hg7 eA8 dX4_make_48 ?_
      refine g_aload_n C 0 dX4_make_49 rfl ?_
      refine g_dup_r C dX4_make_50 ?_
      refine g_get (v := gi (A8 129 9)) C 129 9 (by omega) rfl rfl gu_4 (by decide) qf_X4_36 rfl dX4_make_51 ?_
      refine g_iconst (v := 1) C dX4_make_54 (by decide) ?_
      refine g_iadd C dX4_make_55 ?_
      obtain ⟨A9, eA9, h⟩ := g_lt h
      refine g_put C 129 9 tyX4 tyX4_ok nmX4 (by omega) rfl rfl gu_4 (by decide) qf_X4_36 rfl (by decide +kernel) (Nat.le_of_ble_eq_true rfl) rfl eA9 dX4_make_56 ?_
      refine g_aload_n C 0 dX4_make_59 rfl ?_
      refine g_get (v := gi (A9 129 9)) C 129 9 (by omega) rfl rfl gu_4 (by decide) qf_X4_36 rfl dX4_make_60 ?_
      refine g_iconst (v := 1) C dX4_make_63 (by decide) ?_
      refine g_isub C dX4_make_64 ?_
      obtain ⟨rfl, rfl⟩ := Prod.mk.inj (Option.some.inj h)
      exact g_reti C hr dX4_make_65
    · have h := g_ff c2 h
      refine g_sub [] rfl ?_
      exact wX4_make_b17 hN C hr h

set_option maxHeartbeats 2000000 in
set_option maxRecDepth 20000 in
theorem kX4_make {l : Launch} {D : va_G} {g : gT} {N : Nat} {ad ln : Nat → Nat} (hN : 183 ≤ N) {A A' : gM} {x1 : Int32} {x2 : Int32} {x3 : Int32} {r : Int32} (h : mX4_make A x1 x2 x3 = some (A', r)) : gKi l yX4_make cX4_make 4 (some .int) (0) D g N ad ln A [gr 129, gi x1, gi x2, gi x3] A' r := by
  refine g_meti (by decide) (Nat.le_of_ble_eq_true rfl) ?_
  intro p e s m args below meth c C hr
  refine g_sub [0, 1, 2, 3] rfl ?_
  exact wX4_make_b0 hN C hr h
def mX4_newVariable_b0 (A : gM) : Option (gM × Int32) :=
  (mX4_make A 4 (-1) (-1)).bind fun q1 =>
  some (q1.1, q1.2)
def mX4_newVariable (A : gM) : Option (gM × Int32) := mX4_newVariable_b0 A
set_option maxHeartbeats 2000000 in
set_option maxRecDepth 20000 in
theorem wX4_newVariable_b0 (hN : 183 ≤ N) {A0 A' : gM} {r : Int32} (C : gC p R s m args meth c cX4_newVariable RX4 1 D g (va_A (gw g ad ln A0 N) s.heap.size) 1) (hr : meth.sig.returnType = some .int)  {A : gM} (h : mX4_newVariable_b0 A = some (A', r)) : gJ p l e R s m args below meth c (gEi below D g N ad ln A0 A' r args s) 1 D g (va_A (gw g ad ln A0 N) s.heap.size) N ad ln A [(0, gr 129)] 0 0 0 [] := by
  unfold mX4_newVariable_b0 at h
  refine g_aload_n C 0 dX4_newVariable_0 rfl ?_
  refine g_iconst (v := 4) C dX4_newVariable_1 (by decide) ?_
  refine g_iconst (v := (-1)) C dX4_newVariable_2 (by decide) ?_
  refine g_iconst (v := (-1)) C dX4_newVariable_3 (by decide) ?_
  obtain ⟨q1, eq1, h⟩ := g_bd h
  refine g_calliV C 129 [gi 4, gi (-1), gi (-1)] (kX4_make hN eq1) qs_X4_40 (by omega) (by omega) rfl rfl rfl rfl (Nat.le_of_ble_eq_true rfl) ⟨Nat.zero_le _, Nat.zero_le _⟩ dX4_newVariable_4 ?_
  obtain ⟨rfl, rfl⟩ := Prod.mk.inj (Option.some.inj h)
  exact g_reti C hr dX4_newVariable_7

set_option maxHeartbeats 2000000 in
set_option maxRecDepth 20000 in
theorem kX4_newVariable {l : Launch} {D : va_G} {g : gT} {N : Nat} {ad ln : Nat → Nat} (hN : 183 ≤ N) {A A' : gM} {r : Int32} (h : mX4_newVariable A = some (A', r)) : gKi l yX4_newVariable cX4_newVariable 1 (some .int) (1) D g N ad ln A [gr 129] A' r := by
  refine g_meti (by decide) (Nat.le_of_ble_eq_true rfl) ?_
  intro p e s m args below meth c C hr
  refine g_sub [0] rfl ?_
  exact wX4_newVariable_b0 hN C hr h
def mX4_codeOfNode_b0 (A : gM) (x1 : Int32) : Option (gM × Int32) :=
  some (A, (100 + x1))
def mX4_codeOfNode (A : gM) (x1 : Int32) : Option (gM × Int32) := mX4_codeOfNode_b0 A x1
set_option maxHeartbeats 2000000 in
set_option maxRecDepth 20000 in
theorem wX4_codeOfNode_b0 (hN : 183 ≤ N) {A0 A' : gM} {r : Int32} (C : gC p R s m args meth c cX4_codeOfNode RX4 2 D g (va_A (gw g ad ln A0 N) s.heap.size) 0) (hr : meth.sig.returnType = some .int)  {A : gM} {x1 : Int32} (h : mX4_codeOfNode_b0 A x1 = some (A', r)) : gJ p l e R s m args below meth c (gEi below D g N ad ln A0 A' r args s) 2 D g (va_A (gw g ad ln A0 N) s.heap.size) N ad ln A [(1, gi x1)] 0 0 0 [] := by
  unfold mX4_codeOfNode_b0 at h
  refine g_bipush (v := 100) C dX4_codeOfNode_0 (by decide) ?_
  refine g_iload_n C 0 dX4_codeOfNode_2 rfl ?_
  refine g_iadd C dX4_codeOfNode_3 ?_
  obtain ⟨rfl, rfl⟩ := Prod.mk.inj (Option.some.inj h)
  exact g_reti C hr dX4_codeOfNode_4

set_option maxHeartbeats 2000000 in
set_option maxRecDepth 20000 in
theorem kX4_codeOfNode {l : Launch} {D : va_G} {g : gT} {N : Nat} {ad ln : Nat → Nat} (hN : 183 ≤ N) {A A' : gM} {x1 : Int32} {r : Int32} (h : mX4_codeOfNode A x1 = some (A', r)) : gKi l yX4_codeOfNode cX4_codeOfNode 2 (some .int) (0) D g N ad ln A [gr 129, gi x1] A' r := by
  refine g_meti (by decide) (Nat.le_of_ble_eq_true rfl) ?_
  intro p e s m args below meth c C hr
  refine g_sub [1] rfl ?_
  exact wX4_codeOfNode_b0 hN C hr h
def mX4_forgetMarks_b0 (A : gM) : Option (gM) :=
  g_let (g_up A 129 10 ((A 129 10) + 1)) fun A1 =>
  some A1
def mX4_forgetMarks (A : gM) : Option (gM) := mX4_forgetMarks_b0 A
set_option maxHeartbeats 2000000 in
set_option maxRecDepth 20000 in
theorem wX4_forgetMarks_b0 (hN : 183 ≤ N) {A0 A' : gM} (C : gC p R s m args meth c cX4_forgetMarks RX4 1 D g (va_A (gw g ad ln A0 N) s.heap.size) 0) (hr : meth.sig.returnType = none)  {A : gM} (h : mX4_forgetMarks_b0 A = some A') : gJ p l e R s m args below meth c (gEv below D g N ad ln A0 A' args s) 1 D g (va_A (gw g ad ln A0 N) s.heap.size) N ad ln A [(0, gr 129)] 0 0 0 [] := by
  unfold mX4_forgetMarks_b0 at h
  refine g_aload_n C 0 dX4_forgetMarks_0 rfl ?_
  refine g_dup_r C dX4_forgetMarks_1 ?_
  refine g_get (v := gi (A 129 10)) C 129 10 (by omega) rfl rfl gu_4 (by decide) qf_X4_44 rfl dX4_forgetMarks_2 ?_
  refine g_iconst (v := 1) C dX4_forgetMarks_5 (by decide) ?_
  refine g_iadd C dX4_forgetMarks_6 ?_
  obtain ⟨A1, eA1, h⟩ := g_lt h
  refine g_put C 129 10 tyX4 tyX4_ok nmX4 (by omega) rfl rfl gu_4 (by decide) qf_X4_44 rfl (by decide +kernel) (Nat.le_of_ble_eq_true rfl) rfl eA1 dX4_forgetMarks_7 ?_
  obtain rfl := Option.some.inj h
  exact g_retv C hr dX4_forgetMarks_10

set_option maxHeartbeats 2000000 in
set_option maxRecDepth 20000 in
theorem kX4_forgetMarks {l : Launch} {D : va_G} {g : gT} {N : Nat} {ad ln : Nat → Nat} (hN : 183 ≤ N) {A A' : gM} (h : mX4_forgetMarks A = some A') : gKv l yX4_forgetMarks cX4_forgetMarks 1 (none) (0) D g N ad ln A [gr 129] A' := by
  refine g_metv (by decide) (Nat.le_of_ble_eq_true rfl) ?_
  intro p e s m args below meth c C hr
  refine g_sub [0] rfl ?_
  exact wX4_forgetMarks_b0 hN C hr h
def mX4_isNode_b11 (A : gM) (s0 : Int32) : Option (gM × Int32) :=
  if (s0 : Int32) = 0 ∨ (s0 : Int32) = 1 then some (A, s0) else none
def mX4_isNode_b0 (A : gM) (x1 : Int32) : Option (gM × Int32) :=
  if x1 < 100 then
  mX4_isNode_b11 A 0
  else
  mX4_isNode_b11 A 1
def mX4_isNode (A : gM) (x1 : Int32) : Option (gM × Int32) := mX4_isNode_b0 A x1
set_option maxHeartbeats 2000000 in
set_option maxRecDepth 20000 in
theorem wX4_isNode_b11 (hN : 183 ≤ N) {A0 A' : gM} {r : Int32} (C : gC p R s m args meth c cX4_isNode RX4 2 D g (va_A (gw g ad ln A0 N) s.heap.size) 0) (hr : meth.sig.returnType = some .boolean)  {A : gM} {s0 : Int32} (h : mX4_isNode_b11 A s0 = some (A', r)) : gJ p l e R s m args below meth c (gEi below D g N ad ln A0 A' r args s) 2 D g (va_A (gw g ad ln A0 N) s.heap.size) N ad ln A [] 0 0 11 [gi s0] := by
  unfold mX4_isNode_b11 at h
  obtain ⟨hz1, h⟩ := g_gd h
  obtain ⟨rfl, rfl⟩ := Prod.mk.inj (Option.some.inj h)
  exact g_retz C hr hz1 dX4_isNode_11

set_option maxHeartbeats 2000000 in
set_option maxRecDepth 20000 in
theorem wX4_isNode_b0 (hN : 183 ≤ N) {A0 A' : gM} {r : Int32} (C : gC p R s m args meth c cX4_isNode RX4 2 D g (va_A (gw g ad ln A0 N) s.heap.size) 0) (hr : meth.sig.returnType = some .boolean)  {A : gM} {x1 : Int32} (h : mX4_isNode_b0 A x1 = some (A', r)) : gJ p l e R s m args below meth c (gEi below D g N ad ln A0 A' r args s) 2 D g (va_A (gw g ad ln A0 N) s.heap.size) N ad ln A [(1, gi x1)] 0 0 0 [] := by
  unfold mX4_isNode_b0 at h
  refine g_iload_n C 0 dX4_isNode_0 rfl ?_
  refine g_bipush (v := 100) C dX4_isNode_1 (by decide) ?_
  refine g_icmp_lt C dX4_isNode_3 (tgt := 10) (by decide) (fun c1 => ?_) (fun c1 => ?_)
  · have h := g_tt c1 h
    refine g_iconst (v := 0) C dX4_isNode_10 (by decide) ?_
    refine g_sub [] rfl ?_
    exact wX4_isNode_b11 hN C hr h
  · have h := g_ff c1 h
    refine g_iconst (v := 1) C dX4_isNode_6 (by decide) ?_
    refine g_goto C dX4_isNode_7 (tgt := 11) (by decide) ?_
    refine g_sub [] rfl ?_
    exact wX4_isNode_b11 hN C hr h

set_option maxHeartbeats 2000000 in
set_option maxRecDepth 20000 in
theorem kX4_isNode {l : Launch} {D : va_G} {g : gT} {N : Nat} {ad ln : Nat → Nat} (hN : 183 ≤ N) {A A' : gM} {x1 : Int32} {r : Int32} (h : mX4_isNode A x1 = some (A', r)) : gKi l yX4_isNode cX4_isNode 2 (some .boolean) (0) D g N ad ln A [gr 129, gi x1] A' r := by
  refine g_meti (by decide) (Nat.le_of_ble_eq_true rfl) ?_
  intro p e s m args below meth c C hr
  refine g_sub [1] rfl ?_
  exact wX4_isNode_b0 hN C hr h
def mX4_nodeOfCode_b0 (A : gM) (x1 : Int32) : Option (gM × Int32) :=
  some (A, (x1 - 100))
def mX4_nodeOfCode (A : gM) (x1 : Int32) : Option (gM × Int32) := mX4_nodeOfCode_b0 A x1
set_option maxHeartbeats 2000000 in
set_option maxRecDepth 20000 in
theorem wX4_nodeOfCode_b0 (hN : 183 ≤ N) {A0 A' : gM} {r : Int32} (C : gC p R s m args meth c cX4_nodeOfCode RX4 2 D g (va_A (gw g ad ln A0 N) s.heap.size) 0) (hr : meth.sig.returnType = some .int)  {A : gM} {x1 : Int32} (h : mX4_nodeOfCode_b0 A x1 = some (A', r)) : gJ p l e R s m args below meth c (gEi below D g N ad ln A0 A' r args s) 2 D g (va_A (gw g ad ln A0 N) s.heap.size) N ad ln A [(1, gi x1)] 0 0 0 [] := by
  unfold mX4_nodeOfCode_b0 at h
  refine g_iload_n C 0 dX4_nodeOfCode_0 rfl ?_
  refine g_bipush (v := 100) C dX4_nodeOfCode_1 (by decide) ?_
  refine g_isub C dX4_nodeOfCode_3 ?_
  obtain ⟨rfl, rfl⟩ := Prod.mk.inj (Option.some.inj h)
  exact g_reti C hr dX4_nodeOfCode_4

set_option maxHeartbeats 2000000 in
set_option maxRecDepth 20000 in
theorem kX4_nodeOfCode {l : Launch} {D : va_G} {g : gT} {N : Nat} {ad ln : Nat → Nat} (hN : 183 ≤ N) {A A' : gM} {x1 : Int32} {r : Int32} (h : mX4_nodeOfCode A x1 = some (A', r)) : gKi l yX4_nodeOfCode cX4_nodeOfCode 2 (some .int) (0) D g N ad ln A [gr 129, gi x1] A' r := by
  refine g_meti (by decide) (Nat.le_of_ble_eq_true rfl) ?_
  intro p e s m args below meth c C hr
  refine g_sub [1] rfl ?_
  exact wX4_nodeOfCode_b0 hN C hr h
def mX4_isPair_b15 (A : gM) (s0 : Int32) : Option (gM × Int32) :=
  if (s0 : Int32) = 0 ∨ (s0 : Int32) = 1 then some (A, s0) else none
def mX4_isPair_b10 (A : gM) : Option (gM × Int32) :=
  mX4_isPair_b15 A 1
def mX4_isPair_b0 (A : gM) (x1 : Int32) : Option (gM × Int32) :=
  if x1 = 2 then
  mX4_isPair_b10 A
  else
  if x1 = 3 then
  mX4_isPair_b10 A
  else
  mX4_isPair_b15 A 0
def mX4_isPair (A : gM) (x1 : Int32) : Option (gM × Int32) := mX4_isPair_b0 A x1
set_option maxHeartbeats 2000000 in
set_option maxRecDepth 20000 in
theorem wX4_isPair_b15 (hN : 183 ≤ N) {A0 A' : gM} {r : Int32} (C : gC p R s m args meth c cX4_isPair RX4 2 D g (va_A (gw g ad ln A0 N) s.heap.size) 0) (hr : meth.sig.returnType = some .boolean)  {A : gM} {s0 : Int32} (h : mX4_isPair_b15 A s0 = some (A', r)) : gJ p l e R s m args below meth c (gEi below D g N ad ln A0 A' r args s) 2 D g (va_A (gw g ad ln A0 N) s.heap.size) N ad ln A [] 0 0 15 [gi s0] := by
  unfold mX4_isPair_b15 at h
  obtain ⟨hz1, h⟩ := g_gd h
  obtain ⟨rfl, rfl⟩ := Prod.mk.inj (Option.some.inj h)
  exact g_retz C hr hz1 dX4_isPair_15

set_option maxHeartbeats 2000000 in
set_option maxRecDepth 20000 in
theorem wX4_isPair_b10 (hN : 183 ≤ N) {A0 A' : gM} {r : Int32} (C : gC p R s m args meth c cX4_isPair RX4 2 D g (va_A (gw g ad ln A0 N) s.heap.size) 0) (hr : meth.sig.returnType = some .boolean)  {A : gM} (h : mX4_isPair_b10 A = some (A', r)) : gJ p l e R s m args below meth c (gEi below D g N ad ln A0 A' r args s) 2 D g (va_A (gw g ad ln A0 N) s.heap.size) N ad ln A [] 0 0 10 [] := by
  unfold mX4_isPair_b10 at h
  refine g_iconst (v := 1) C dX4_isPair_10 (by decide) ?_
  refine g_goto C dX4_isPair_11 (tgt := 15) (by decide) ?_
  refine g_sub [] rfl ?_
  exact wX4_isPair_b15 hN C hr h

set_option maxHeartbeats 2000000 in
set_option maxRecDepth 20000 in
theorem wX4_isPair_b0 (hN : 183 ≤ N) {A0 A' : gM} {r : Int32} (C : gC p R s m args meth c cX4_isPair RX4 2 D g (va_A (gw g ad ln A0 N) s.heap.size) 0) (hr : meth.sig.returnType = some .boolean)  {A : gM} {x1 : Int32} (h : mX4_isPair_b0 A x1 = some (A', r)) : gJ p l e R s m args below meth c (gEi below D g N ad ln A0 A' r args s) 2 D g (va_A (gw g ad ln A0 N) s.heap.size) N ad ln A [(1, gi x1)] 0 0 0 [] := by
  unfold mX4_isPair_b0 at h
  refine g_iload_n C 0 dX4_isPair_0 rfl ?_
  refine g_iconst (v := 2) C dX4_isPair_1 (by decide) ?_
  refine g_icmp_eq C dX4_isPair_2 (tgt := 10) (by decide) (fun c1 => ?_) (fun c1 => ?_)
  · have h := g_tt c1 h
    refine g_sub [] rfl ?_
    exact wX4_isPair_b10 hN C hr h
  · have h := g_ff c1 h
    refine g_iload_n C 0 dX4_isPair_5 rfl ?_
    refine g_iconst (v := 3) C dX4_isPair_6 (by decide) ?_
    refine g_icmp_ne C dX4_isPair_7 (tgt := 14) (by decide) (fun c2 => ?_) (fun c2 => ?_)
    · have h := g_ff c2 h
      refine g_iconst (v := 0) C dX4_isPair_14 (by decide) ?_
      refine g_sub [] rfl ?_
      exact wX4_isPair_b15 hN C hr h
    · have h := g_tt c2 h
      refine g_sub [] rfl ?_
      exact wX4_isPair_b10 hN C hr h

set_option maxHeartbeats 2000000 in
set_option maxRecDepth 20000 in
theorem kX4_isPair {l : Launch} {D : va_G} {g : gT} {N : Nat} {ad ln : Nat → Nat} (hN : 183 ≤ N) {A A' : gM} {x1 : Int32} {r : Int32} (h : mX4_isPair A x1 = some (A', r)) : gKi l yX4_isPair cX4_isPair 2 (some .boolean) (0) D g N ad ln A [gr 129, gi x1] A' r := by
  refine g_meti (by decide) (Nat.le_of_ble_eq_true rfl) ?_
  intro p e s m args below meth c C hr
  refine g_sub [1] rfl ?_
  exact wX4_isPair_b0 hN C hr h
def mX4_resolve_b61 (A : gM) (s0 : Int32) : Option (gM × Int32) :=
  some (A, s0)
def mX4_resolve_b60 (A : gM) : Option (gM × Int32) :=
  mX4_resolve_b61 A 0
def mX4_resolve_b45 (A : gM) (x2 : Int32) : Option (gM × Int32) :=
  if x2 < 0 then
  mX4_resolve_b60 A
  else
  if 2600 ≤ x2 then
  mX4_resolve_b60 A
  else
  mX4_resolve_b61 A x2
def mX4_resolve_b4 (K4 : gM → Int32 → Int32 → Option (gM × Int32)) (A : gM) (x2 : Int32) (x3 : Int32) : Option (gM × Int32) :=
  if 2600 ≤ x3 then
  mX4_resolve_b45 A x2
  else
  if x2 < 0 then
  mX4_resolve_b45 A x2
  else
  if 2600 ≤ x2 then
  mX4_resolve_b45 A x2
  else
  if g_in x2 2600 = true then
  if (A 130 x2.toNatClampNeg) = 5 then
  if g_in x2 2600 = true then
  g_let (A 131 x2.toNatClampNeg) fun v7 =>
  g_let (x3 + 1) fun v8 =>
  K4 A v7 v8
  else none
  else
  mX4_resolve_b45 A x2
  else none
def mX4_resolve_L4 : Nat → gM → Int32 → Int32 → Option (gM × Int32)
  | 0 => fun _ _ _ => none
  | f + 1 => mX4_resolve_b4 (mX4_resolve_L4 f)
def mX4_resolve_b0 (A : gM) (x1 : Int32) : Option (gM × Int32) :=
  mX4_resolve_L4 gF A x1 0
def mX4_resolve (A : gM) (x1 : Int32) : Option (gM × Int32) := mX4_resolve_b0 A x1
set_option maxHeartbeats 2000000 in
set_option maxRecDepth 20000 in
theorem wX4_resolve_b61 (hN : 183 ≤ N) {A0 A' : gM} {r : Int32} (C : gC p R s m args meth c cX4_resolve RX4 4 D g (va_A (gw g ad ln A0 N) s.heap.size) 0) (hr : meth.sig.returnType = some .int)  {A : gM} {s0 : Int32} (h : mX4_resolve_b61 A s0 = some (A', r)) : gJ p l e R s m args below meth c (gEi below D g N ad ln A0 A' r args s) 4 D g (va_A (gw g ad ln A0 N) s.heap.size) N ad ln A [] 0 0 61 [gi s0] := by
  unfold mX4_resolve_b61 at h
  obtain ⟨rfl, rfl⟩ := Prod.mk.inj (Option.some.inj h)
  exact g_reti C hr dX4_resolve_61

set_option maxHeartbeats 2000000 in
set_option maxRecDepth 20000 in
theorem wX4_resolve_b60 (hN : 183 ≤ N) {A0 A' : gM} {r : Int32} (C : gC p R s m args meth c cX4_resolve RX4 4 D g (va_A (gw g ad ln A0 N) s.heap.size) 0) (hr : meth.sig.returnType = some .int)  {A : gM} (h : mX4_resolve_b60 A = some (A', r)) : gJ p l e R s m args below meth c (gEi below D g N ad ln A0 A' r args s) 4 D g (va_A (gw g ad ln A0 N) s.heap.size) N ad ln A [] 0 0 60 [] := by
  unfold mX4_resolve_b60 at h
  refine g_iconst (v := 0) C dX4_resolve_60 (by decide) ?_
  refine g_sub [] rfl ?_
  exact wX4_resolve_b61 hN C hr h

set_option maxHeartbeats 2000000 in
set_option maxRecDepth 20000 in
theorem wX4_resolve_b45 (hN : 183 ≤ N) {A0 A' : gM} {r : Int32} (C : gC p R s m args meth c cX4_resolve RX4 4 D g (va_A (gw g ad ln A0 N) s.heap.size) 0) (hr : meth.sig.returnType = some .int)  {A : gM} {x2 : Int32} (h : mX4_resolve_b45 A x2 = some (A', r)) : gJ p l e R s m args below meth c (gEi below D g N ad ln A0 A' r args s) 4 D g (va_A (gw g ad ln A0 N) s.heap.size) N ad ln A [(2, gi x2)] 0 0 45 [] := by
  unfold mX4_resolve_b45 at h
  refine g_iload_n C 0 dX4_resolve_45 rfl ?_
  refine g_if_lt C dX4_resolve_46 (tgt := 60) (by decide) (fun c1 => ?_) (fun c1 => ?_)
  · have h := g_tt c1 h
    refine g_sub [] rfl ?_
    exact wX4_resolve_b60 hN C hr h
  · have h := g_ff c1 h
    refine g_iload_n C 0 dX4_resolve_49 rfl ?_
    refine g_sipush (v := 2600) C dX4_resolve_50 (by decide) ?_
    refine g_icmp_ge C dX4_resolve_53 (tgt := 60) (by decide) (fun c2 => ?_) (fun c2 => ?_)
    · have h := g_tt c2 h
      refine g_sub [] rfl ?_
      exact wX4_resolve_b60 hN C hr h
    · have h := g_ff c2 h
      refine g_iload_n C 0 dX4_resolve_56 rfl ?_
      refine g_goto C dX4_resolve_57 (tgt := 61) (by decide) ?_
      refine g_sub [] rfl ?_
      exact wX4_resolve_b61 hN C hr h

set_option maxHeartbeats 2000000 in
set_option maxRecDepth 20000 in
theorem wX4_resolve_b4 (hN : 183 ≤ N) {A0 A' : gM} {r : Int32} (C : gC p R s m args meth c cX4_resolve RX4 4 D g (va_A (gw g ad ln A0 N) s.heap.size) 0) (hr : meth.sig.returnType = some .int) {K4 : gM → Int32 → Int32 → Option (gM × Int32)} (hK4 : ∀ {A : gM} {x2 : Int32} {x3 : Int32}, K4 A x2 x3 = some (A', r) → gJ p l e R s m args below meth c (gEi below D g N ad ln A0 A' r args s) 4 D g (va_A (gw g ad ln A0 N) s.heap.size) N ad ln A [(0, gr 129), (2, gi x2), (3, gi x3)] 0 0 4 []) {A : gM} {x2 : Int32} {x3 : Int32} (h : mX4_resolve_b4 K4 A x2 x3 = some (A', r)) : gJ p l e R s m args below meth c (gEi below D g N ad ln A0 A' r args s) 4 D g (va_A (gw g ad ln A0 N) s.heap.size) N ad ln A [(0, gr 129), (2, gi x2), (3, gi x3)] 0 0 4 [] := by
  unfold mX4_resolve_b4 at h
  refine g_iload_n C 2 dX4_resolve_4 rfl ?_
  refine g_sipush (v := 2600) C dX4_resolve_5 (by decide) ?_
  refine g_icmp_ge C dX4_resolve_8 (tgt := 45) (by decide) (fun c1 => ?_) (fun c1 => ?_)
  · have h := g_tt c1 h
    refine g_sub [1] rfl ?_
    exact wX4_resolve_b45 hN C hr h
  · have h := g_ff c1 h
    refine g_iload_n C 1 dX4_resolve_11 rfl ?_
    refine g_if_lt C dX4_resolve_12 (tgt := 45) (by decide) (fun c2 => ?_) (fun c2 => ?_)
    · have h := g_tt c2 h
      refine g_sub [1] rfl ?_
      exact wX4_resolve_b45 hN C hr h
    · have h := g_ff c2 h
      refine g_iload_n C 1 dX4_resolve_15 rfl ?_
      refine g_sipush (v := 2600) C dX4_resolve_16 (by decide) ?_
      refine g_icmp_ge C dX4_resolve_19 (tgt := 45) (by decide) (fun c3 => ?_) (fun c3 => ?_)
      · have h := g_tt c3 h
        refine g_sub [1] rfl ?_
        exact wX4_resolve_b45 hN C hr h
      · have h := g_ff c3 h
        refine g_aload_n C 0 dX4_resolve_22 rfl ?_
        refine g_get (v := gr 130) C 129 0 (by omega) rfl rfl gu_4 (by decide) qf_X4_11 rfl dX4_resolve_23 ?_
        refine g_iload_n C 1 dX4_resolve_26 rfl ?_
        obtain ⟨hg4, h⟩ := g_gd h
        refine g_iald C 130 (by omega) rfl rfl hg4 dX4_resolve_27 ?_
        refine g_iconst (v := 5) C dX4_resolve_28 (by decide) ?_
        refine g_icmp_ne C dX4_resolve_29 (tgt := 45) (by decide) (fun c5 => ?_) (fun c5 => ?_)
        · have h := g_ff c5 h
          refine g_sub [1] rfl ?_
          exact wX4_resolve_b45 hN C hr h
        · have h := g_tt c5 h
          refine g_aload_n C 0 dX4_resolve_32 rfl ?_
          refine g_get (v := gr 131) C 129 1 (by omega) rfl rfl gu_4 (by decide) qf_X4_15 rfl dX4_resolve_33 ?_
          refine g_iload_n C 1 dX4_resolve_36 rfl ?_
          obtain ⟨hg6, h⟩ := g_gd h
          refine g_iald C 131 (by omega) rfl rfl hg6 dX4_resolve_37 ?_
          obtain ⟨v7, ev7, h⟩ := g_lt h
          refine g_topi ev7 ?_
          refine g_istore_n C dX4_resolve_38 (by decide) rfl ?_
          obtain ⟨v8, ev8, h⟩ := g_lt h
          refine g_iinc C 2 dX4_resolve_39 rfl ev8 (by decide) rfl ?_
          refine g_goto C dX4_resolve_42 (tgt := 4) (by decide) ?_
          refine g_sub [2, 1, 0] rfl ?_
          exact hK4 h

set_option maxHeartbeats 2000000 in
set_option maxRecDepth 20000 in
theorem wX4_resolve_L4 (hN : 183 ≤ N) {A0 A' : gM} {r : Int32} (C : gC p R s m args meth c cX4_resolve RX4 4 D g (va_A (gw g ad ln A0 N) s.heap.size) 0) (hr : meth.sig.returnType = some .int)  : ∀ (f : Nat) {A : gM} {x2 : Int32} {x3 : Int32}, mX4_resolve_L4 f A x2 x3 = some (A', r) → gJ p l e R s m args below meth c (gEi below D g N ad ln A0 A' r args s) 4 D g (va_A (gw g ad ln A0 N) s.heap.size) N ad ln A [(0, gr 129), (2, gi x2), (3, gi x3)] 0 0 4 []
  | 0, A, x2, x3, h => by cases h
  | f + 1, A, x2, x3, h => wX4_resolve_b4 hN C hr (fun {A} {x2} {x3} h => wX4_resolve_L4 hN C hr f h) h
set_option maxHeartbeats 2000000 in
set_option maxRecDepth 20000 in
theorem wX4_resolve_b0 (hN : 183 ≤ N) {A0 A' : gM} {r : Int32} (C : gC p R s m args meth c cX4_resolve RX4 4 D g (va_A (gw g ad ln A0 N) s.heap.size) 0) (hr : meth.sig.returnType = some .int)  {A : gM} {x1 : Int32} (h : mX4_resolve_b0 A x1 = some (A', r)) : gJ p l e R s m args below meth c (gEi below D g N ad ln A0 A' r args s) 4 D g (va_A (gw g ad ln A0 N) s.heap.size) N ad ln A [(0, gr 129), (1, gi x1)] 0 0 0 [] := by
  unfold mX4_resolve_b0 at h
  refine g_iload_n C 1 dX4_resolve_0 rfl ?_
  refine g_istore_n C dX4_resolve_1 (by decide) rfl ?_
  refine g_iconst (v := 0) C dX4_resolve_2 (by decide) ?_
  refine g_istore_n C dX4_resolve_3 (by decide) rfl ?_
  refine g_sub [2, 1, 0] rfl ?_
  exact wX4_resolve_L4 hN C hr gF h

set_option maxHeartbeats 2000000 in
set_option maxRecDepth 20000 in
theorem kX4_resolve {l : Launch} {D : va_G} {g : gT} {N : Nat} {ad ln : Nat → Nat} (hN : 183 ≤ N) {A A' : gM} {x1 : Int32} {r : Int32} (h : mX4_resolve A x1 = some (A', r)) : gKi l yX4_resolve cX4_resolve 4 (some .int) (0) D g N ad ln A [gr 129, gi x1] A' r := by
  refine g_meti (by decide) (Nat.le_of_ble_eq_true rfl) ?_
  intro p e s m args below meth c C hr
  refine g_sub [0, 1] rfl ?_
  exact wX4_resolve_b0 hN C hr h
def mX4_markWithin_b121 (A : gM) : Option (gM) :=
  some A
def mX4_markWithin_b115 (K11 : gM → Int32 → Int32 → Option (gM)) (A : gM) (x2 : Int32) (x3 : Int32) : Option (gM) :=
  g_let (x3 + 1) fun v1 =>
  K11 A x2 v1
def mX4_markWithin_b11 (K11 : gM → Int32 → Int32 → Option (gM)) (A : gM) (x2 : Int32) (x3 : Int32) : Option (gM) :=
  if x2 ≤ 0 then
  mX4_markWithin_b121 A
  else
  if 1000000 ≤ x3 then
  mX4_markWithin_b121 A
  else
  g_let (x2 + (-1)) fun v3 =>
  if g_in v3 5208 = true then
  (mX4_resolve A (A 134 v3.toNatClampNeg)).bind fun q5 =>
  if g_in q5.2 2600 = true then
  if (q5.1 133 q5.2.toNatClampNeg) = (q5.1 129 10) then
  mX4_markWithin_b115 K11 q5.1 v3 x3
  else
  if g_in q5.2 2600 = true then g_let (g_up q5.1 133 q5.2.toNatClampNeg (q5.1 129 10)) fun A9 =>
  if g_in q5.2 2600 = true then
  (mX4_isPair A9 (A9 130 q5.2.toNatClampNeg)).bind fun q11 =>
  if q11.2 = 0 then
  mX4_markWithin_b115 K11 q11.1 v3 x3
  else
  if 5208 < (v3 + 2) then
  mX4_markWithin_b115 K11 q11.1 v3 x3
  else
  if g_in q5.2 2600 = true then
  if g_in v3 5208 = true then g_let (g_up q11.1 134 v3.toNatClampNeg (q11.1 132 q5.2.toNatClampNeg)) fun A16 =>
  if g_in q5.2 2600 = true then
  if g_in (v3 + 1) 5208 = true then g_let (g_up A16 134 (v3 + 1).toNatClampNeg (A16 131 q5.2.toNatClampNeg)) fun A19 =>
  g_let (v3 + 2) fun v20 =>
  mX4_markWithin_b115 K11 A19 v20 x3
  else none
  else none
  else none
  else none
  else none
  else none
  else none
  else none
def mX4_markWithin_L11 : Nat → gM → Int32 → Int32 → Option (gM)
  | 0 => fun _ _ _ => none
  | f + 1 => mX4_markWithin_b11 (mX4_markWithin_L11 f)
def mX4_markWithin_b0 (A : gM) (x1 : Int32) : Option (gM) :=
  if g_in 0 5208 = true then g_let (g_up A 134 (0 : Int32).toNatClampNeg x1) fun A2 =>
  mX4_markWithin_L11 gF A2 1 0
  else none
def mX4_markWithin (A : gM) (x1 : Int32) : Option (gM) := mX4_markWithin_b0 A x1
set_option maxHeartbeats 2000000 in
set_option maxRecDepth 20000 in
theorem wX4_markWithin_b121 (hN : 183 ≤ N) {A0 A' : gM} (C : gC p R s m args meth c cX4_markWithin RX4 5 D g (va_A (gw g ad ln A0 N) s.heap.size) 1) (hr : meth.sig.returnType = none)  {A : gM} (h : mX4_markWithin_b121 A = some A') : gJ p l e R s m args below meth c (gEv below D g N ad ln A0 A' args s) 5 D g (va_A (gw g ad ln A0 N) s.heap.size) N ad ln A [] 0 0 121 [] := by
  unfold mX4_markWithin_b121 at h
  obtain rfl := Option.some.inj h
  exact g_retv C hr dX4_markWithin_121

set_option maxHeartbeats 2000000 in
set_option maxRecDepth 20000 in
theorem wX4_markWithin_b115 (hN : 183 ≤ N) {A0 A' : gM} (C : gC p R s m args meth c cX4_markWithin RX4 5 D g (va_A (gw g ad ln A0 N) s.heap.size) 1) (hr : meth.sig.returnType = none) {K11 : gM → Int32 → Int32 → Option (gM)} (hK11 : ∀ {A : gM} {x2 : Int32} {x3 : Int32}, K11 A x2 x3 = some A' → gJ p l e R s m args below meth c (gEv below D g N ad ln A0 A' args s) 5 D g (va_A (gw g ad ln A0 N) s.heap.size) N ad ln A [(0, gr 129), (2, gi x2), (3, gi x3)] 0 0 11 []) {A : gM} {x2 : Int32} {x3 : Int32} (h : mX4_markWithin_b115 K11 A x2 x3 = some A') : gJ p l e R s m args below meth c (gEv below D g N ad ln A0 A' args s) 5 D g (va_A (gw g ad ln A0 N) s.heap.size) N ad ln A [(0, gr 129), (2, gi x2), (3, gi x3)] 0 0 115 [] := by
  unfold mX4_markWithin_b115 at h
  obtain ⟨v1, ev1, h⟩ := g_lt h
  refine g_iinc C 2 dX4_markWithin_115 rfl ev1 (by decide) rfl ?_
  refine g_goto C dX4_markWithin_118 (tgt := 11) (by decide) ?_
  refine g_sub [1, 2, 0] rfl ?_
  exact hK11 h

set_option maxHeartbeats 2000000 in
set_option maxRecDepth 20000 in
theorem wX4_markWithin_b11 (hN : 183 ≤ N) {A0 A' : gM} (C : gC p R s m args meth c cX4_markWithin RX4 5 D g (va_A (gw g ad ln A0 N) s.heap.size) 1) (hr : meth.sig.returnType = none) {K11 : gM → Int32 → Int32 → Option (gM)} (hK11 : ∀ {A : gM} {x2 : Int32} {x3 : Int32}, K11 A x2 x3 = some A' → gJ p l e R s m args below meth c (gEv below D g N ad ln A0 A' args s) 5 D g (va_A (gw g ad ln A0 N) s.heap.size) N ad ln A [(0, gr 129), (2, gi x2), (3, gi x3)] 0 0 11 []) {A : gM} {x2 : Int32} {x3 : Int32} (h : mX4_markWithin_b11 K11 A x2 x3 = some A') : gJ p l e R s m args below meth c (gEv below D g N ad ln A0 A' args s) 5 D g (va_A (gw g ad ln A0 N) s.heap.size) N ad ln A [(0, gr 129), (2, gi x2), (3, gi x3)] 0 0 11 [] := by
  unfold mX4_markWithin_b11 at h
  refine g_iload_n C 1 dX4_markWithin_11 rfl ?_
  refine g_if_le C dX4_markWithin_12 (tgt := 121) (by decide) (fun c1 => ?_) (fun c1 => ?_)
  · have h := g_tt c1 h
    refine g_sub [] rfl ?_
    exact wX4_markWithin_b121 hN C hr h
  · have h := g_ff c1 h
    refine g_iload_n C 2 dX4_markWithin_15 rfl ?_
    refine g_ldc C qc_X4_47 dX4_markWithin_16 ?_
    refine g_icmp_ge C dX4_markWithin_18 (tgt := 121) (by decide) (fun c2 => ?_) (fun c2 => ?_)
    · have h := g_tt c2 h
      refine g_sub [] rfl ?_
      exact wX4_markWithin_b121 hN C hr h
    · have h := g_ff c2 h
      obtain ⟨v3, ev3, h⟩ := g_lt h
      refine g_iinc C 1 dX4_markWithin_21 rfl ev3 (by decide) rfl ?_
      refine g_aload_n C 1 dX4_markWithin_24 rfl ?_
      refine g_aload_n C 1 dX4_markWithin_25 rfl ?_
      refine g_get (v := gr 134) C 129 4 (by omega) rfl rfl gu_4 (by decide) qf_X4_24 rfl dX4_markWithin_26 ?_
      refine g_iload_n C 0 dX4_markWithin_29 rfl ?_
      obtain ⟨hg4, h⟩ := g_gd h
      refine g_iald C 134 (by omega) rfl rfl hg4 dX4_markWithin_30 ?_
      obtain ⟨q5, eq5, h⟩ := g_bd h
      refine g_calliV C 129 [gi (A 134 v3.toNatClampNeg)] (kX4_resolve hN eq5) qs_X4_48 (by omega) (by omega) rfl rfl rfl rfl (Nat.le_of_ble_eq_true rfl) ⟨Nat.zero_le _, Nat.zero_le _⟩ dX4_markWithin_31 ?_
      refine g_istore C dX4_markWithin_34 (by decide) rfl ?_
      refine g_aload_n C 2 dX4_markWithin_36 rfl ?_
      refine g_get (v := gr 133) C 129 3 (by omega) rfl rfl gu_4 (by decide) qf_X4_21 rfl dX4_markWithin_37 ?_
      refine g_iload C 0 dX4_markWithin_40 rfl ?_
      obtain ⟨hg6, h⟩ := g_gd h
      refine g_iald C 133 (by omega) rfl rfl hg6 dX4_markWithin_42 ?_
      refine g_aload_n C 2 dX4_markWithin_43 rfl ?_
      refine g_get (v := gi (q5.1 129 10)) C 129 10 (by omega) rfl rfl gu_4 (by decide) qf_X4_44 rfl dX4_markWithin_44 ?_
      refine g_icmp_eq C dX4_markWithin_47 (tgt := 115) (by decide) (fun c7 => ?_) (fun c7 => ?_)
      · have h := g_tt c7 h
        refine g_sub [2, 1, 3] rfl ?_
        exact wX4_markWithin_b115 hN C hr hK11 h
      · have h := g_ff c7 h
        refine g_aload_n C 2 dX4_markWithin_50 rfl ?_
        refine g_get (v := gr 133) C 129 3 (by omega) rfl rfl gu_4 (by decide) qf_X4_21 rfl dX4_markWithin_51 ?_
        refine g_iload C 0 dX4_markWithin_54 rfl ?_
        refine g_aload_n C 2 dX4_markWithin_56 rfl ?_
        refine g_get (v := gi (q5.1 129 10)) C 129 10 (by omega) rfl rfl gu_4 (by decide) qf_X4_44 rfl dX4_markWithin_57 ?_
        obtain ⟨hg8, h⟩ := g_gd h
        obtain ⟨A9, eA9, h⟩ := g_lt h
        refine g_iast C 133 (by omega) rfl rfl hg8 eA9 dX4_markWithin_60 ?_
        refine g_aload_n C 2 dX4_markWithin_61 rfl ?_
        refine g_aload_n C 2 dX4_markWithin_62 rfl ?_
        refine g_get (v := gr 130) C 129 0 (by omega) rfl rfl gu_4 (by decide) qf_X4_11 rfl dX4_markWithin_63 ?_
        refine g_iload C 0 dX4_markWithin_66 rfl ?_
        obtain ⟨hg10, h⟩ := g_gd h
        refine g_iald C 130 (by omega) rfl rfl hg10 dX4_markWithin_68 ?_
        obtain ⟨q11, eq11, h⟩ := g_bd h
        refine g_calliV C 129 [gi (A9 130 q5.2.toNatClampNeg)] (kX4_isPair hN eq11) qs_X4_52 (by omega) (by omega) rfl rfl rfl rfl (Nat.le_of_ble_eq_true rfl) ⟨Nat.zero_le _, Nat.zero_le _⟩ dX4_markWithin_69 ?_
        refine g_if_eq C dX4_markWithin_72 (tgt := 115) (by decide) (fun c12 => ?_) (fun c12 => ?_)
        · have h := g_tt c12 h
          refine g_sub [2, 1, 3] rfl ?_
          exact wX4_markWithin_b115 hN C hr hK11 h
        · have h := g_ff c12 h
          refine g_iload_n C 1 dX4_markWithin_75 rfl ?_
          refine g_iconst (v := 2) C dX4_markWithin_76 (by decide) ?_
          refine g_iadd C dX4_markWithin_77 ?_
          refine g_sipush (v := 5208) C dX4_markWithin_78 (by decide) ?_
          refine g_icmp_gt C dX4_markWithin_81 (tgt := 115) (by decide) (fun c13 => ?_) (fun c13 => ?_)
          · have h := g_tt c13 h
            refine g_sub [2, 1, 3] rfl ?_
            exact wX4_markWithin_b115 hN C hr hK11 h
          · have h := g_ff c13 h
            refine g_aload_n C 2 dX4_markWithin_84 rfl ?_
            refine g_get (v := gr 134) C 129 4 (by omega) rfl rfl gu_4 (by decide) qf_X4_24 rfl dX4_markWithin_85 ?_
            refine g_iload_n C 1 dX4_markWithin_88 rfl ?_
            refine g_aload_n C 2 dX4_markWithin_89 rfl ?_
            refine g_get (v := gr 132) C 129 2 (by omega) rfl rfl gu_4 (by decide) qf_X4_18 rfl dX4_markWithin_90 ?_
            refine g_iload C 0 dX4_markWithin_93 rfl ?_
            obtain ⟨hg14, h⟩ := g_gd h
            refine g_iald C 132 (by omega) rfl rfl hg14 dX4_markWithin_95 ?_
            obtain ⟨hg15, h⟩ := g_gd h
            obtain ⟨A16, eA16, h⟩ := g_lt h
            refine g_iast C 134 (by omega) rfl rfl hg15 eA16 dX4_markWithin_96 ?_
            refine g_aload_n C 2 dX4_markWithin_97 rfl ?_
            refine g_get (v := gr 134) C 129 4 (by omega) rfl rfl gu_4 (by decide) qf_X4_24 rfl dX4_markWithin_98 ?_
            refine g_iload_n C 1 dX4_markWithin_101 rfl ?_
            refine g_iconst (v := 1) C dX4_markWithin_102 (by decide) ?_
            refine g_iadd C dX4_markWithin_103 ?_
            refine g_aload_n C 2 dX4_markWithin_104 rfl ?_
            refine g_get (v := gr 131) C 129 1 (by omega) rfl rfl gu_4 (by decide) qf_X4_15 rfl dX4_markWithin_105 ?_
            refine g_iload C 0 dX4_markWithin_108 rfl ?_
            obtain ⟨hg17, h⟩ := g_gd h
            refine g_iald C 131 (by omega) rfl rfl hg17 dX4_markWithin_110 ?_
            obtain ⟨hg18, h⟩ := g_gd h
            obtain ⟨A19, eA19, h⟩ := g_lt h
            refine g_iast C 134 (by omega) rfl rfl hg18 eA19 dX4_markWithin_111 ?_
            obtain ⟨v20, ev20, h⟩ := g_lt h
            refine g_iinc C 1 dX4_markWithin_112 rfl ev20 (by decide) rfl ?_
            refine g_sub [2, 0, 3] rfl ?_
            exact wX4_markWithin_b115 hN C hr hK11 h

set_option maxHeartbeats 2000000 in
set_option maxRecDepth 20000 in
theorem wX4_markWithin_L11 (hN : 183 ≤ N) {A0 A' : gM} (C : gC p R s m args meth c cX4_markWithin RX4 5 D g (va_A (gw g ad ln A0 N) s.heap.size) 1) (hr : meth.sig.returnType = none)  : ∀ (f : Nat) {A : gM} {x2 : Int32} {x3 : Int32}, mX4_markWithin_L11 f A x2 x3 = some A' → gJ p l e R s m args below meth c (gEv below D g N ad ln A0 A' args s) 5 D g (va_A (gw g ad ln A0 N) s.heap.size) N ad ln A [(0, gr 129), (2, gi x2), (3, gi x3)] 0 0 11 []
  | 0, A, x2, x3, h => by cases h
  | f + 1, A, x2, x3, h => wX4_markWithin_b11 hN C hr (fun {A} {x2} {x3} h => wX4_markWithin_L11 hN C hr f h) h
set_option maxHeartbeats 2000000 in
set_option maxRecDepth 20000 in
theorem wX4_markWithin_b0 (hN : 183 ≤ N) {A0 A' : gM} (C : gC p R s m args meth c cX4_markWithin RX4 5 D g (va_A (gw g ad ln A0 N) s.heap.size) 1) (hr : meth.sig.returnType = none)  {A : gM} {x1 : Int32} (h : mX4_markWithin_b0 A x1 = some A') : gJ p l e R s m args below meth c (gEv below D g N ad ln A0 A' args s) 5 D g (va_A (gw g ad ln A0 N) s.heap.size) N ad ln A [(0, gr 129), (1, gi x1)] 0 0 0 [] := by
  unfold mX4_markWithin_b0 at h
  refine g_iconst (v := 1) C dX4_markWithin_0 (by decide) ?_
  refine g_istore_n C dX4_markWithin_1 (by decide) rfl ?_
  refine g_aload_n C 1 dX4_markWithin_2 rfl ?_
  refine g_get (v := gr 134) C 129 4 (by omega) rfl rfl gu_4 (by decide) qf_X4_24 rfl dX4_markWithin_3 ?_
  refine g_iconst (v := 0) C dX4_markWithin_6 (by decide) ?_
  refine g_iload_n C 2 dX4_markWithin_7 rfl ?_
  obtain ⟨hg1, h⟩ := g_gd h
  obtain ⟨A2, eA2, h⟩ := g_lt h
  refine g_iast C 134 (by omega) rfl rfl hg1 eA2 dX4_markWithin_8 ?_
  refine g_iconst (v := 0) C dX4_markWithin_9 (by decide) ?_
  refine g_istore_n C dX4_markWithin_10 (by decide) rfl ?_
  refine g_sub [2, 1, 0] rfl ?_
  exact wX4_markWithin_L11 hN C hr gF h

set_option maxHeartbeats 2000000 in
set_option maxRecDepth 20000 in
theorem kX4_markWithin {l : Launch} {D : va_G} {g : gT} {N : Nat} {ad ln : Nat → Nat} (hN : 183 ≤ N) {A A' : gM} {x1 : Int32} (h : mX4_markWithin A x1 = some A') : gKv l yX4_markWithin cX4_markWithin 5 (none) (1) D g N ad ln A [gr 129, gi x1] A' := by
  refine g_metv (by decide) (Nat.le_of_ble_eq_true rfl) ?_
  intro p e s m args below meth c C hr
  refine g_sub [0, 1] rfl ?_
  exact wX4_markWithin_b0 hN C hr h
def mX4_putPair_b11 (A : gM) (x1 : Int32) : Option (gM × Int32) :=
  some (A, x1)
def mX4_putPair_b0 (A : gM) (x1 : Int32) (x2 : Int32) (x3 : Int32) : Option (gM × Int32) :=
  if x1 < 0 then
  mX4_putPair_b11 A x1
  else
  if x1 < 5208 then
  if g_in x1 5208 = true then g_let (g_up A 135 x1.toNatClampNeg x2) fun A4 =>
  if g_in x1 5208 = true then g_let (g_up A4 136 x1.toNatClampNeg x3) fun A6 =>
  some (A6, (x1 + 1))
  else none
  else none
  else
  mX4_putPair_b11 A x1
def mX4_putPair (A : gM) (x1 : Int32) (x2 : Int32) (x3 : Int32) : Option (gM × Int32) := mX4_putPair_b0 A x1 x2 x3
set_option maxHeartbeats 2000000 in
set_option maxRecDepth 20000 in
theorem wX4_putPair_b11 (hN : 183 ≤ N) {A0 A' : gM} {r : Int32} (C : gC p R s m args meth c cX4_putPair RX4 4 D g (va_A (gw g ad ln A0 N) s.heap.size) 0) (hr : meth.sig.returnType = some .int)  {A : gM} {x1 : Int32} (h : mX4_putPair_b11 A x1 = some (A', r)) : gJ p l e R s m args below meth c (gEi below D g N ad ln A0 A' r args s) 4 D g (va_A (gw g ad ln A0 N) s.heap.size) N ad ln A [(1, gi x1)] 0 0 11 [] := by
  unfold mX4_putPair_b11 at h
  refine g_iload_n C 0 dX4_putPair_11 rfl ?_
  obtain ⟨rfl, rfl⟩ := Prod.mk.inj (Option.some.inj h)
  exact g_reti C hr dX4_putPair_12

set_option maxHeartbeats 2000000 in
set_option maxRecDepth 20000 in
theorem wX4_putPair_b0 (hN : 183 ≤ N) {A0 A' : gM} {r : Int32} (C : gC p R s m args meth c cX4_putPair RX4 4 D g (va_A (gw g ad ln A0 N) s.heap.size) 0) (hr : meth.sig.returnType = some .int)  {A : gM} {x1 : Int32} {x2 : Int32} {x3 : Int32} (h : mX4_putPair_b0 A x1 x2 x3 = some (A', r)) : gJ p l e R s m args below meth c (gEi below D g N ad ln A0 A' r args s) 4 D g (va_A (gw g ad ln A0 N) s.heap.size) N ad ln A [(0, gr 129), (1, gi x1), (2, gi x2), (3, gi x3)] 0 0 0 [] := by
  unfold mX4_putPair_b0 at h
  refine g_iload_n C 1 dX4_putPair_0 rfl ?_
  refine g_if_lt C dX4_putPair_1 (tgt := 11) (by decide) (fun c1 => ?_) (fun c1 => ?_)
  · have h := g_tt c1 h
    refine g_sub [1] rfl ?_
    exact wX4_putPair_b11 hN C hr h
  · have h := g_ff c1 h
    refine g_iload_n C 1 dX4_putPair_4 rfl ?_
    refine g_sipush (v := 5208) C dX4_putPair_5 (by decide) ?_
    refine g_icmp_lt C dX4_putPair_8 (tgt := 13) (by decide) (fun c2 => ?_) (fun c2 => ?_)
    · have h := g_tt c2 h
      refine g_aload_n C 0 dX4_putPair_13 rfl ?_
      refine g_get (v := gr 135) C 129 5 (by omega) rfl rfl gu_4 (by decide) qf_X4_27 rfl dX4_putPair_14 ?_
      refine g_iload_n C 1 dX4_putPair_17 rfl ?_
      refine g_iload_n C 2 dX4_putPair_18 rfl ?_
      obtain ⟨hg3, h⟩ := g_gd h
      obtain ⟨A4, eA4, h⟩ := g_lt h
      refine g_iast C 135 (by omega) rfl rfl hg3 eA4 dX4_putPair_19 ?_
      refine g_aload_n C 0 dX4_putPair_20 rfl ?_
      refine g_get (v := gr 136) C 129 6 (by omega) rfl rfl gu_4 (by decide) qf_X4_30 rfl dX4_putPair_21 ?_
      refine g_iload_n C 1 dX4_putPair_24 rfl ?_
      refine g_iload_n C 3 dX4_putPair_25 rfl ?_
      obtain ⟨hg5, h⟩ := g_gd h
      obtain ⟨A6, eA6, h⟩ := g_lt h
      refine g_iast C 136 (by omega) rfl rfl hg5 eA6 dX4_putPair_26 ?_
      refine g_iload_n C 1 dX4_putPair_27 rfl ?_
      refine g_iconst (v := 1) C dX4_putPair_28 (by decide) ?_
      refine g_iadd C dX4_putPair_29 ?_
      obtain ⟨rfl, rfl⟩ := Prod.mk.inj (Option.some.inj h)
      exact g_reti C hr dX4_putPair_30
    · have h := g_ff c2 h
      refine g_sub [1] rfl ?_
      exact wX4_putPair_b11 hN C hr h

set_option maxHeartbeats 2000000 in
set_option maxRecDepth 20000 in
theorem kX4_putPair {l : Launch} {D : va_G} {g : gT} {N : Nat} {ad ln : Nat → Nat} (hN : 183 ≤ N) {A A' : gM} {x1 : Int32} {x2 : Int32} {x3 : Int32} {r : Int32} (h : mX4_putPair A x1 x2 x3 = some (A', r)) : gKi l yX4_putPair cX4_putPair 4 (some .int) (0) D g N ad ln A [gr 129, gi x1, gi x2, gi x3] A' r := by
  refine g_meti (by decide) (Nat.le_of_ble_eq_true rfl) ?_
  intro p e s m args below meth c C hr
  refine g_sub [0, 1, 2, 3] rfl ?_
  exact wX4_putPair_b0 hN C hr h
def mX4_give_b36 (A : gM) : Option (gM) :=
  some A
def mX4_give_b0 (A : gM) (x1 : Int32) (x2 : Int32) : Option (gM) :=
  (mX4_resolve A x2).bind fun q1 =>
  if x1 < 0 then
  mX4_give_b36 q1.1
  else
  if 2600 ≤ x1 then
  mX4_give_b36 q1.1
  else
  if x1 = q1.2 then
  mX4_give_b36 q1.1
  else
  if g_in x1 2600 = true then g_let (g_up q1.1 130 x1.toNatClampNeg 5) fun A6 =>
  if g_in x1 2600 = true then g_let (g_up A6 131 x1.toNatClampNeg q1.2) fun A8 =>
  mX4_give_b36 A8
  else none
  else none
def mX4_give (A : gM) (x1 : Int32) (x2 : Int32) : Option (gM) := mX4_give_b0 A x1 x2
set_option maxHeartbeats 2000000 in
set_option maxRecDepth 20000 in
theorem wX4_give_b36 (hN : 183 ≤ N) {A0 A' : gM} (C : gC p R s m args meth c cX4_give RX4 4 D g (va_A (gw g ad ln A0 N) s.heap.size) 1) (hr : meth.sig.returnType = none)  {A : gM} (h : mX4_give_b36 A = some A') : gJ p l e R s m args below meth c (gEv below D g N ad ln A0 A' args s) 4 D g (va_A (gw g ad ln A0 N) s.heap.size) N ad ln A [] 0 0 36 [] := by
  unfold mX4_give_b36 at h
  obtain rfl := Option.some.inj h
  exact g_retv C hr dX4_give_36

set_option maxHeartbeats 2000000 in
set_option maxRecDepth 20000 in
theorem wX4_give_b0 (hN : 183 ≤ N) {A0 A' : gM} (C : gC p R s m args meth c cX4_give RX4 4 D g (va_A (gw g ad ln A0 N) s.heap.size) 1) (hr : meth.sig.returnType = none)  {A : gM} {x1 : Int32} {x2 : Int32} (h : mX4_give_b0 A x1 x2 = some A') : gJ p l e R s m args below meth c (gEv below D g N ad ln A0 A' args s) 4 D g (va_A (gw g ad ln A0 N) s.heap.size) N ad ln A [(0, gr 129), (1, gi x1), (2, gi x2)] 0 0 0 [] := by
  unfold mX4_give_b0 at h
  refine g_aload_n C 0 dX4_give_0 rfl ?_
  refine g_iload_n C 2 dX4_give_1 rfl ?_
  obtain ⟨q1, eq1, h⟩ := g_bd h
  refine g_calliV C 129 [gi x2] (kX4_resolve hN eq1) qs_X4_48 (by omega) (by omega) rfl rfl rfl rfl (Nat.le_of_ble_eq_true rfl) ⟨Nat.zero_le _, Nat.zero_le _⟩ dX4_give_2 ?_
  refine g_istore_n C dX4_give_5 (by decide) rfl ?_
  refine g_iload_n C 2 dX4_give_6 rfl ?_
  refine g_if_lt C dX4_give_7 (tgt := 36) (by decide) (fun c2 => ?_) (fun c2 => ?_)
  · have h := g_tt c2 h
    refine g_sub [] rfl ?_
    exact wX4_give_b36 hN C hr h
  · have h := g_ff c2 h
    refine g_iload_n C 2 dX4_give_10 rfl ?_
    refine g_sipush (v := 2600) C dX4_give_11 (by decide) ?_
    refine g_icmp_ge C dX4_give_14 (tgt := 36) (by decide) (fun c3 => ?_) (fun c3 => ?_)
    · have h := g_tt c3 h
      refine g_sub [] rfl ?_
      exact wX4_give_b36 hN C hr h
    · have h := g_ff c3 h
      refine g_iload_n C 2 dX4_give_17 rfl ?_
      refine g_iload_n C 0 dX4_give_18 rfl ?_
      refine g_icmp_eq C dX4_give_19 (tgt := 36) (by decide) (fun c4 => ?_) (fun c4 => ?_)
      · have h := g_tt c4 h
        refine g_sub [] rfl ?_
        exact wX4_give_b36 hN C hr h
      · have h := g_ff c4 h
        refine g_aload_n C 1 dX4_give_22 rfl ?_
        refine g_get (v := gr 130) C 129 0 (by omega) rfl rfl gu_4 (by decide) qf_X4_11 rfl dX4_give_23 ?_
        refine g_iload_n C 2 dX4_give_26 rfl ?_
        refine g_iconst (v := 5) C dX4_give_27 (by decide) ?_
        obtain ⟨hg5, h⟩ := g_gd h
        obtain ⟨A6, eA6, h⟩ := g_lt h
        refine g_iast C 130 (by omega) rfl rfl hg5 eA6 dX4_give_28 ?_
        refine g_aload_n C 1 dX4_give_29 rfl ?_
        refine g_get (v := gr 131) C 129 1 (by omega) rfl rfl gu_4 (by decide) qf_X4_15 rfl dX4_give_30 ?_
        refine g_iload_n C 2 dX4_give_33 rfl ?_
        refine g_iload_n C 0 dX4_give_34 rfl ?_
        obtain ⟨hg7, h⟩ := g_gd h
        obtain ⟨A8, eA8, h⟩ := g_lt h
        refine g_iast C 131 (by omega) rfl rfl hg7 eA8 dX4_give_35 ?_
        refine g_sub [] rfl ?_
        exact wX4_give_b36 hN C hr h

set_option maxHeartbeats 2000000 in
set_option maxRecDepth 20000 in
theorem kX4_give {l : Launch} {D : va_G} {g : gT} {N : Nat} {ad ln : Nat → Nat} (hN : 183 ≤ N) {A A' : gM} {x1 : Int32} {x2 : Int32} (h : mX4_give A x1 x2 = some A') : gKv l yX4_give cX4_give 4 (none) (1) D g N ad ln A [gr 129, gi x1, gi x2] A' := by
  refine g_metv (by decide) (Nat.le_of_ble_eq_true rfl) ?_
  intro p e s m args below meth c C hr
  refine g_sub [0, 1, 2] rfl ?_
  exact wX4_give_b0 hN C hr h
def mX4_match_b261 (A : gM) : Option (gM × Int32) :=
  some (A, 0)
def mX4_match_b255 (K11 : gM → Int32 → Int32 → Option (gM × Int32)) (A : gM) (x3 : Int32) (x4 : Int32) : Option (gM × Int32) :=
  g_let (x4 + 1) fun v1 =>
  K11 A x3 v1
def mX4_match_b145 (K11 : gM → Int32 → Int32 → Option (gM × Int32)) (A : gM) (x3 : Int32) (x4 : Int32) (x7 : Int32) (s0 : Int32) : Option (gM × Int32) :=
  (mX4_forgetMarks A).bind fun q1 =>
  (mX4_markWithin q1 s0).bind fun q2 =>
  if g_in x7 2600 = true then
  if (q2 133 x7.toNatClampNeg) = (q2 129 10) then
  some (q2, 3)
  else
  (mX4_give q2 x7 s0).bind fun q5 =>
  mX4_match_b255 K11 q5 x3 x4
  else none
def mX4_match_b129 (K11 : gM → Int32 → Int32 → Option (gM × Int32)) (A : gM) (x3 : Int32) (x4 : Int32) (x5 : Int32) (x6 : Int32) (s0 : Int32) : Option (gM × Int32) :=
  if s0 = x5 then
  mX4_match_b145 K11 A x3 x4 s0 x6
  else
  mX4_match_b145 K11 A x3 x4 s0 x5
def mX4_match_b111 (K11 : gM → Int32 → Int32 → Option (gM × Int32)) (A : gM) (x3 : Int32) (x4 : Int32) (x5 : Int32) (x6 : Int32) : Option (gM × Int32) :=
  if g_in x5 2600 = true then
  if (A 130 x5.toNatClampNeg) = 4 then
  mX4_match_b129 K11 A x3 x4 x5 x6 x5
  else
  mX4_match_b129 K11 A x3 x4 x5 x6 x6
  else none
def mX4_match_b11 (K11 : gM → Int32 → Int32 → Option (gM × Int32)) (A : gM) (x3 : Int32) (x4 : Int32) : Option (gM × Int32) :=
  if x3 ≤ 0 then
  mX4_match_b261 A
  else
  if 1000000 ≤ x4 then
  mX4_match_b261 A
  else
  g_let (x3 + (-1)) fun v3 =>
  if g_in v3 5208 = true then
  if 0 ≤ (A 135 v3.toNatClampNeg) then
  if g_in v3 5208 = true then
  (mX4_resolve A (A 135 v3.toNatClampNeg)).bind fun q7 =>
  if g_in v3 5208 = true then
  (mX4_resolve q7.1 (q7.1 136 v3.toNatClampNeg)).bind fun q9 =>
  if q7.2 = q9.2 then
  mX4_match_b255 K11 q9.1 v3 x4
  else
  if g_in q7.2 2600 = true then
  if (q9.1 130 q7.2.toNatClampNeg) = 4 then
  mX4_match_b111 K11 q9.1 v3 x4 q7.2 q9.2
  else
  if g_in q9.2 2600 = true then
  if (q9.1 130 q9.2.toNatClampNeg) = 4 then
  mX4_match_b111 K11 q9.1 v3 x4 q7.2 q9.2
  else
  if g_in q7.2 2600 = true then
  if g_in q9.2 2600 = true then
  if (q9.1 130 q7.2.toNatClampNeg) = (q9.1 130 q9.2.toNatClampNeg) then
  (mX4_putPair q9.1 v3 ((-1) - q7.2) q9.2).bind fun q18 =>
  if g_in q7.2 2600 = true then
  if g_in q9.2 2600 = true then
  (mX4_putPair q18.1 q18.2 (q18.1 132 q7.2.toNatClampNeg) (q18.1 132 q9.2.toNatClampNeg)).bind fun q21 =>
  if g_in q7.2 2600 = true then
  if g_in q9.2 2600 = true then
  (mX4_putPair q21.1 q21.2 (q21.1 131 q7.2.toNatClampNeg) (q21.1 131 q9.2.toNatClampNeg)).bind fun q24 =>
  mX4_match_b255 K11 q24.1 q24.2 x4
  else none
  else none
  else none
  else none
  else
  some (q9.1, 2)
  else none
  else none
  else none
  else none
  else none
  else none
  else
  if g_in v3 5208 = true then
  if g_in v3 5208 = true then
  (mX4_give A ((-1) - (A 135 v3.toNatClampNeg)) (A 136 v3.toNatClampNeg)).bind fun q27 =>
  mX4_match_b255 K11 q27 v3 x4
  else none
  else none
  else none
def mX4_match_L11 : Nat → gM → Int32 → Int32 → Option (gM × Int32)
  | 0 => fun _ _ _ => none
  | f + 1 => mX4_match_b11 (mX4_match_L11 f)
def mX4_match_b0 (A : gM) (x1 : Int32) (x2 : Int32) : Option (gM × Int32) :=
  (mX4_putPair A 0 x1 x2).bind fun q1 =>
  mX4_match_L11 gF q1.1 q1.2 0
def mX4_match (A : gM) (x1 : Int32) (x2 : Int32) : Option (gM × Int32) := mX4_match_b0 A x1 x2
set_option maxHeartbeats 2000000 in
set_option maxRecDepth 20000 in
theorem wX4_match_b261 (hN : 183 ≤ N) {A0 A' : gM} {r : Int32} (C : gC p R s m args meth c cX4_match RX4 9 D g (va_A (gw g ad ln A0 N) s.heap.size) 2) (hr : meth.sig.returnType = some .int)  {A : gM} (h : mX4_match_b261 A = some (A', r)) : gJ p l e R s m args below meth c (gEi below D g N ad ln A0 A' r args s) 9 D g (va_A (gw g ad ln A0 N) s.heap.size) N ad ln A [] 0 0 261 [] := by
  unfold mX4_match_b261 at h
  refine g_iconst (v := 0) C dX4_match_261 (by decide) ?_
  obtain ⟨rfl, rfl⟩ := Prod.mk.inj (Option.some.inj h)
  exact g_reti C hr dX4_match_262

set_option maxHeartbeats 2000000 in
set_option maxRecDepth 20000 in
theorem wX4_match_b255 (hN : 183 ≤ N) {A0 A' : gM} {r : Int32} (C : gC p R s m args meth c cX4_match RX4 9 D g (va_A (gw g ad ln A0 N) s.heap.size) 2) (hr : meth.sig.returnType = some .int) {K11 : gM → Int32 → Int32 → Option (gM × Int32)} (hK11 : ∀ {A : gM} {x3 : Int32} {x4 : Int32}, K11 A x3 x4 = some (A', r) → gJ p l e R s m args below meth c (gEi below D g N ad ln A0 A' r args s) 9 D g (va_A (gw g ad ln A0 N) s.heap.size) N ad ln A [(0, gr 129), (3, gi x3), (4, gi x4)] 0 0 11 []) {A : gM} {x3 : Int32} {x4 : Int32} (h : mX4_match_b255 K11 A x3 x4 = some (A', r)) : gJ p l e R s m args below meth c (gEi below D g N ad ln A0 A' r args s) 9 D g (va_A (gw g ad ln A0 N) s.heap.size) N ad ln A [(0, gr 129), (3, gi x3), (4, gi x4)] 0 0 255 [] := by
  unfold mX4_match_b255 at h
  obtain ⟨v1, ev1, h⟩ := g_lt h
  refine g_iinc C 2 dX4_match_255 rfl ev1 (by decide) rfl ?_
  refine g_goto C dX4_match_258 (tgt := 11) (by decide) ?_
  refine g_sub [1, 2, 0] rfl ?_
  exact hK11 h

set_option maxHeartbeats 2000000 in
set_option maxRecDepth 20000 in
theorem wX4_match_b145 (hN : 183 ≤ N) {A0 A' : gM} {r : Int32} (C : gC p R s m args meth c cX4_match RX4 9 D g (va_A (gw g ad ln A0 N) s.heap.size) 2) (hr : meth.sig.returnType = some .int) {K11 : gM → Int32 → Int32 → Option (gM × Int32)} (hK11 : ∀ {A : gM} {x3 : Int32} {x4 : Int32}, K11 A x3 x4 = some (A', r) → gJ p l e R s m args below meth c (gEi below D g N ad ln A0 A' r args s) 9 D g (va_A (gw g ad ln A0 N) s.heap.size) N ad ln A [(0, gr 129), (3, gi x3), (4, gi x4)] 0 0 11 []) {A : gM} {x3 : Int32} {x4 : Int32} {x7 : Int32} {s0 : Int32} (h : mX4_match_b145 K11 A x3 x4 x7 s0 = some (A', r)) : gJ p l e R s m args below meth c (gEi below D g N ad ln A0 A' r args s) 9 D g (va_A (gw g ad ln A0 N) s.heap.size) N ad ln A [(0, gr 129), (3, gi x3), (4, gi x4), (7, gi x7)] 0 0 145 [gi s0] := by
  unfold mX4_match_b145 at h
  refine g_istore C dX4_match_145 (by decide) rfl ?_
  refine g_aload_n C 1 dX4_match_147 rfl ?_
  obtain ⟨q1, eq1, h⟩ := g_bd h
  refine g_callvV C 129 [] (kX4_forgetMarks hN eq1) qs_X4_63 (by omega) (by omega) rfl rfl rfl rfl (Nat.le_of_ble_eq_true rfl) ⟨Nat.zero_le _, Nat.zero_le _⟩ dX4_match_148 ?_
  refine g_aload_n C 1 dX4_match_151 rfl ?_
  refine g_iload C 0 dX4_match_152 rfl ?_
  obtain ⟨q2, eq2, h⟩ := g_bd h
  refine g_callvV C 129 [gi s0] (kX4_markWithin hN eq2) qs_X4_66 (by omega) (by omega) rfl rfl rfl rfl (Nat.le_of_ble_eq_true rfl) ⟨Nat.zero_le _, Nat.zero_le _⟩ dX4_match_154 ?_
  refine g_aload_n C 1 dX4_match_157 rfl ?_
  refine g_get (v := gr 133) C 129 3 (by omega) rfl rfl gu_4 (by decide) qf_X4_21 rfl dX4_match_158 ?_
  refine g_iload C 4 dX4_match_161 rfl ?_
  obtain ⟨hg3, h⟩ := g_gd h
  refine g_iald C 133 (by omega) rfl rfl hg3 dX4_match_163 ?_
  refine g_aload_n C 1 dX4_match_164 rfl ?_
  refine g_get (v := gi (q2 129 10)) C 129 10 (by omega) rfl rfl gu_4 (by decide) qf_X4_44 rfl dX4_match_165 ?_
  refine g_icmp_ne C dX4_match_168 (tgt := 173) (by decide) (fun c4 => ?_) (fun c4 => ?_)
  · have h := g_ff c4 h
    refine g_aload_n C 1 dX4_match_173 rfl ?_
    refine g_iload C 4 dX4_match_174 rfl ?_
    refine g_iload C 0 dX4_match_176 rfl ?_
    obtain ⟨q5, eq5, h⟩ := g_bd h
    refine g_callvV C 129 [gi x7, gi s0] (kX4_give hN eq5) qs_X4_59 (by omega) (by omega) rfl rfl rfl rfl (Nat.le_of_ble_eq_true rfl) ⟨Nat.zero_le _, Nat.zero_le _⟩ dX4_match_178 ?_
    refine g_goto C dX4_match_181 (tgt := 255) (by decide) ?_
    refine g_sub [1, 2, 3] rfl ?_
    exact wX4_match_b255 hN C hr hK11 h
  · have h := g_tt c4 h
    refine g_iconst (v := 3) C dX4_match_171 (by decide) ?_
    obtain ⟨rfl, rfl⟩ := Prod.mk.inj (Option.some.inj h)
    exact g_reti C hr dX4_match_172

set_option maxHeartbeats 2000000 in
set_option maxRecDepth 20000 in
theorem wX4_match_b129 (hN : 183 ≤ N) {A0 A' : gM} {r : Int32} (C : gC p R s m args meth c cX4_match RX4 9 D g (va_A (gw g ad ln A0 N) s.heap.size) 2) (hr : meth.sig.returnType = some .int) {K11 : gM → Int32 → Int32 → Option (gM × Int32)} (hK11 : ∀ {A : gM} {x3 : Int32} {x4 : Int32}, K11 A x3 x4 = some (A', r) → gJ p l e R s m args below meth c (gEi below D g N ad ln A0 A' r args s) 9 D g (va_A (gw g ad ln A0 N) s.heap.size) N ad ln A [(0, gr 129), (3, gi x3), (4, gi x4)] 0 0 11 []) {A : gM} {x3 : Int32} {x4 : Int32} {x5 : Int32} {x6 : Int32} {s0 : Int32} (h : mX4_match_b129 K11 A x3 x4 x5 x6 s0 = some (A', r)) : gJ p l e R s m args below meth c (gEi below D g N ad ln A0 A' r args s) 9 D g (va_A (gw g ad ln A0 N) s.heap.size) N ad ln A [(0, gr 129), (3, gi x3), (4, gi x4), (5, gi x5), (6, gi x6)] 0 0 129 [gi s0] := by
  unfold mX4_match_b129 at h
  refine g_istore C dX4_match_129 (by decide) rfl ?_
  refine g_iload C 0 dX4_match_131 rfl ?_
  refine g_iload C 4 dX4_match_133 rfl ?_
  refine g_icmp_ne C dX4_match_135 (tgt := 143) (by decide) (fun c1 => ?_) (fun c1 => ?_)
  · have h := g_ff c1 h
    refine g_iload C 4 dX4_match_143 rfl ?_
    refine g_sub [1, 2, 3, 0] rfl ?_
    exact wX4_match_b145 hN C hr hK11 h
  · have h := g_tt c1 h
    refine g_iload C 5 dX4_match_138 rfl ?_
    refine g_goto C dX4_match_140 (tgt := 145) (by decide) ?_
    refine g_sub [1, 2, 3, 0] rfl ?_
    exact wX4_match_b145 hN C hr hK11 h

set_option maxHeartbeats 2000000 in
set_option maxRecDepth 20000 in
theorem wX4_match_b111 (hN : 183 ≤ N) {A0 A' : gM} {r : Int32} (C : gC p R s m args meth c cX4_match RX4 9 D g (va_A (gw g ad ln A0 N) s.heap.size) 2) (hr : meth.sig.returnType = some .int) {K11 : gM → Int32 → Int32 → Option (gM × Int32)} (hK11 : ∀ {A : gM} {x3 : Int32} {x4 : Int32}, K11 A x3 x4 = some (A', r) → gJ p l e R s m args below meth c (gEi below D g N ad ln A0 A' r args s) 9 D g (va_A (gw g ad ln A0 N) s.heap.size) N ad ln A [(0, gr 129), (3, gi x3), (4, gi x4)] 0 0 11 []) {A : gM} {x3 : Int32} {x4 : Int32} {x5 : Int32} {x6 : Int32} (h : mX4_match_b111 K11 A x3 x4 x5 x6 = some (A', r)) : gJ p l e R s m args below meth c (gEi below D g N ad ln A0 A' r args s) 9 D g (va_A (gw g ad ln A0 N) s.heap.size) N ad ln A [(0, gr 129), (3, gi x3), (4, gi x4), (5, gi x5), (6, gi x6)] 0 0 111 [] := by
  unfold mX4_match_b111 at h
  refine g_aload_n C 0 dX4_match_111 rfl ?_
  refine g_get (v := gr 130) C 129 0 (by omega) rfl rfl gu_4 (by decide) qf_X4_11 rfl dX4_match_112 ?_
  refine g_iload C 3 dX4_match_115 rfl ?_
  obtain ⟨hg1, h⟩ := g_gd h
  refine g_iald C 130 (by omega) rfl rfl hg1 dX4_match_117 ?_
  refine g_iconst (v := 4) C dX4_match_118 (by decide) ?_
  refine g_icmp_ne C dX4_match_119 (tgt := 127) (by decide) (fun c2 => ?_) (fun c2 => ?_)
  · have h := g_ff c2 h
    refine g_iload C 4 dX4_match_127 rfl ?_
    refine g_sub [0, 1, 2, 3, 4] rfl ?_
    exact wX4_match_b129 hN C hr hK11 h
  · have h := g_tt c2 h
    refine g_iload C 3 dX4_match_122 rfl ?_
    refine g_goto C dX4_match_124 (tgt := 129) (by decide) ?_
    refine g_sub [0, 1, 2, 3, 4] rfl ?_
    exact wX4_match_b129 hN C hr hK11 h

set_option maxHeartbeats 2000000 in
set_option maxRecDepth 20000 in
theorem wX4_match_b11 (hN : 183 ≤ N) {A0 A' : gM} {r : Int32} (C : gC p R s m args meth c cX4_match RX4 9 D g (va_A (gw g ad ln A0 N) s.heap.size) 2) (hr : meth.sig.returnType = some .int) {K11 : gM → Int32 → Int32 → Option (gM × Int32)} (hK11 : ∀ {A : gM} {x3 : Int32} {x4 : Int32}, K11 A x3 x4 = some (A', r) → gJ p l e R s m args below meth c (gEi below D g N ad ln A0 A' r args s) 9 D g (va_A (gw g ad ln A0 N) s.heap.size) N ad ln A [(0, gr 129), (3, gi x3), (4, gi x4)] 0 0 11 []) {A : gM} {x3 : Int32} {x4 : Int32} (h : mX4_match_b11 K11 A x3 x4 = some (A', r)) : gJ p l e R s m args below meth c (gEi below D g N ad ln A0 A' r args s) 9 D g (va_A (gw g ad ln A0 N) s.heap.size) N ad ln A [(0, gr 129), (3, gi x3), (4, gi x4)] 0 0 11 [] := by
  unfold mX4_match_b11 at h
  refine g_iload_n C 1 dX4_match_11 rfl ?_
  refine g_if_le C dX4_match_12 (tgt := 261) (by decide) (fun c1 => ?_) (fun c1 => ?_)
  · have h := g_tt c1 h
    refine g_sub [] rfl ?_
    exact wX4_match_b261 hN C hr h
  · have h := g_ff c1 h
    refine g_iload C 2 dX4_match_15 rfl ?_
    refine g_ldc C qc_X4_47 dX4_match_17 ?_
    refine g_icmp_ge C dX4_match_19 (tgt := 261) (by decide) (fun c2 => ?_) (fun c2 => ?_)
    · have h := g_tt c2 h
      refine g_sub [] rfl ?_
      exact wX4_match_b261 hN C hr h
    · have h := g_ff c2 h
      obtain ⟨v3, ev3, h⟩ := g_lt h
      refine g_iinc C 1 dX4_match_22 rfl ev3 (by decide) rfl ?_
      refine g_aload_n C 1 dX4_match_25 rfl ?_
      refine g_get (v := gr 135) C 129 5 (by omega) rfl rfl gu_4 (by decide) qf_X4_27 rfl dX4_match_26 ?_
      refine g_iload_n C 0 dX4_match_29 rfl ?_
      obtain ⟨hg4, h⟩ := g_gd h
      refine g_iald C 135 (by omega) rfl rfl hg4 dX4_match_30 ?_
      refine g_if_ge C dX4_match_31 (tgt := 55) (by decide) (fun c5 => ?_) (fun c5 => ?_)
      · have h := g_tt c5 h
        refine g_aload_n C 1 dX4_match_55 rfl ?_
        refine g_aload_n C 1 dX4_match_56 rfl ?_
        refine g_get (v := gr 135) C 129 5 (by omega) rfl rfl gu_4 (by decide) qf_X4_27 rfl dX4_match_57 ?_
        refine g_iload_n C 0 dX4_match_60 rfl ?_
        obtain ⟨hg6, h⟩ := g_gd h
        refine g_iald C 135 (by omega) rfl rfl hg6 dX4_match_61 ?_
        obtain ⟨q7, eq7, h⟩ := g_bd h
        refine g_calliV C 129 [gi (A 135 v3.toNatClampNeg)] (kX4_resolve hN eq7) qs_X4_48 (by omega) (by omega) rfl rfl rfl rfl (Nat.le_of_ble_eq_true rfl) ⟨Nat.zero_le _, Nat.zero_le _⟩ dX4_match_62 ?_
        refine g_istore C dX4_match_65 (by decide) rfl ?_
        refine g_aload_n C 2 dX4_match_67 rfl ?_
        refine g_aload_n C 2 dX4_match_68 rfl ?_
        refine g_get (v := gr 136) C 129 6 (by omega) rfl rfl gu_4 (by decide) qf_X4_30 rfl dX4_match_69 ?_
        refine g_iload_n C 1 dX4_match_72 rfl ?_
        obtain ⟨hg8, h⟩ := g_gd h
        refine g_iald C 136 (by omega) rfl rfl hg8 dX4_match_73 ?_
        obtain ⟨q9, eq9, h⟩ := g_bd h
        refine g_calliV C 129 [gi (q7.1 136 v3.toNatClampNeg)] (kX4_resolve hN eq9) qs_X4_48 (by omega) (by omega) rfl rfl rfl rfl (Nat.le_of_ble_eq_true rfl) ⟨Nat.zero_le _, Nat.zero_le _⟩ dX4_match_74 ?_
        refine g_istore C dX4_match_77 (by decide) rfl ?_
        refine g_iload C 1 dX4_match_79 rfl ?_
        refine g_iload C 0 dX4_match_81 rfl ?_
        refine g_icmp_ne C dX4_match_83 (tgt := 89) (by decide) (fun c10 => ?_) (fun c10 => ?_)
        · have h := g_ff c10 h
          refine g_aload_n C 3 dX4_match_89 rfl ?_
          refine g_get (v := gr 130) C 129 0 (by omega) rfl rfl gu_4 (by decide) qf_X4_11 rfl dX4_match_90 ?_
          refine g_iload C 1 dX4_match_93 rfl ?_
          obtain ⟨hg11, h⟩ := g_gd h
          refine g_iald C 130 (by omega) rfl rfl hg11 dX4_match_95 ?_
          refine g_iconst (v := 4) C dX4_match_96 (by decide) ?_
          refine g_icmp_eq C dX4_match_97 (tgt := 111) (by decide) (fun c12 => ?_) (fun c12 => ?_)
          · have h := g_tt c12 h
            refine g_sub [3, 2, 4, 1, 0] rfl ?_
            exact wX4_match_b111 hN C hr hK11 h
          · have h := g_ff c12 h
            refine g_aload_n C 3 dX4_match_100 rfl ?_
            refine g_get (v := gr 130) C 129 0 (by omega) rfl rfl gu_4 (by decide) qf_X4_11 rfl dX4_match_101 ?_
            refine g_iload C 0 dX4_match_104 rfl ?_
            obtain ⟨hg13, h⟩ := g_gd h
            refine g_iald C 130 (by omega) rfl rfl hg13 dX4_match_106 ?_
            refine g_iconst (v := 4) C dX4_match_107 (by decide) ?_
            refine g_icmp_ne C dX4_match_108 (tgt := 184) (by decide) (fun c14 => ?_) (fun c14 => ?_)
            · have h := g_ff c14 h
              refine g_aload_n C 3 dX4_match_184 rfl ?_
              refine g_get (v := gr 130) C 129 0 (by omega) rfl rfl gu_4 (by decide) qf_X4_11 rfl dX4_match_185 ?_
              refine g_iload C 1 dX4_match_188 rfl ?_
              obtain ⟨hg15, h⟩ := g_gd h
              refine g_iald C 130 (by omega) rfl rfl hg15 dX4_match_190 ?_
              refine g_aload_n C 3 dX4_match_191 rfl ?_
              refine g_get (v := gr 130) C 129 0 (by omega) rfl rfl gu_4 (by decide) qf_X4_11 rfl dX4_match_192 ?_
              refine g_iload C 0 dX4_match_195 rfl ?_
              obtain ⟨hg16, h⟩ := g_gd h
              refine g_iald C 130 (by omega) rfl rfl hg16 dX4_match_197 ?_
              refine g_icmp_eq C dX4_match_198 (tgt := 203) (by decide) (fun c17 => ?_) (fun c17 => ?_)
              · have h := g_tt c17 h
                refine g_aload_n C 3 dX4_match_203 rfl ?_
                refine g_iload_n C 2 dX4_match_204 rfl ?_
                refine g_iconst (v := (-1)) C dX4_match_205 (by decide) ?_
                refine g_iload C 1 dX4_match_206 rfl ?_
                refine g_isub C dX4_match_208 ?_
                refine g_iload C 0 dX4_match_209 rfl ?_
                obtain ⟨q18, eq18, h⟩ := g_bd h
                refine g_calliV C 129 [gi v3, gi ((-1) - q7.2), gi q9.2] (kX4_putPair hN eq18) qs_X4_56 (by omega) (by omega) rfl rfl rfl rfl (Nat.le_of_ble_eq_true rfl) ⟨Nat.zero_le _, Nat.zero_le _⟩ dX4_match_211 ?_
                refine g_istore_n C dX4_match_214 (by decide) rfl ?_
                refine g_aload_n C 3 dX4_match_215 rfl ?_
                refine g_iload_n C 0 dX4_match_216 rfl ?_
                refine g_aload_n C 3 dX4_match_217 rfl ?_
                refine g_get (v := gr 132) C 129 2 (by omega) rfl rfl gu_4 (by decide) qf_X4_18 rfl dX4_match_218 ?_
                refine g_iload C 2 dX4_match_221 rfl ?_
                obtain ⟨hg19, h⟩ := g_gd h
                refine g_iald C 132 (by omega) rfl rfl hg19 dX4_match_223 ?_
                refine g_aload_n C 3 dX4_match_224 rfl ?_
                refine g_get (v := gr 132) C 129 2 (by omega) rfl rfl gu_4 (by decide) qf_X4_18 rfl dX4_match_225 ?_
                refine g_iload C 1 dX4_match_228 rfl ?_
                obtain ⟨hg20, h⟩ := g_gd h
                refine g_iald C 132 (by omega) rfl rfl hg20 dX4_match_230 ?_
                obtain ⟨q21, eq21, h⟩ := g_bd h
                refine g_calliV C 129 [gi q18.2, gi (q18.1 132 q7.2.toNatClampNeg), gi (q18.1 132 q9.2.toNatClampNeg)] (kX4_putPair hN eq21) qs_X4_56 (by omega) (by omega) rfl rfl rfl rfl (Nat.le_of_ble_eq_true rfl) ⟨Nat.zero_le _, Nat.zero_le _⟩ dX4_match_231 ?_
                refine g_istore_n C dX4_match_234 (by decide) rfl ?_
                refine g_aload_n C 3 dX4_match_235 rfl ?_
                refine g_iload_n C 0 dX4_match_236 rfl ?_
                refine g_aload_n C 3 dX4_match_237 rfl ?_
                refine g_get (v := gr 131) C 129 1 (by omega) rfl rfl gu_4 (by decide) qf_X4_15 rfl dX4_match_238 ?_
                refine g_iload C 2 dX4_match_241 rfl ?_
                obtain ⟨hg22, h⟩ := g_gd h
                refine g_iald C 131 (by omega) rfl rfl hg22 dX4_match_243 ?_
                refine g_aload_n C 3 dX4_match_244 rfl ?_
                refine g_get (v := gr 131) C 129 1 (by omega) rfl rfl gu_4 (by decide) qf_X4_15 rfl dX4_match_245 ?_
                refine g_iload C 1 dX4_match_248 rfl ?_
                obtain ⟨hg23, h⟩ := g_gd h
                refine g_iald C 131 (by omega) rfl rfl hg23 dX4_match_250 ?_
                obtain ⟨q24, eq24, h⟩ := g_bd h
                refine g_calliV C 129 [gi q21.2, gi (q21.1 131 q7.2.toNatClampNeg), gi (q21.1 131 q9.2.toNatClampNeg)] (kX4_putPair hN eq24) qs_X4_56 (by omega) (by omega) rfl rfl rfl rfl (Nat.le_of_ble_eq_true rfl) ⟨Nat.zero_le _, Nat.zero_le _⟩ dX4_match_251 ?_
                refine g_istore_n C dX4_match_254 (by decide) rfl ?_
                refine g_sub [3, 0, 4] rfl ?_
                exact wX4_match_b255 hN C hr hK11 h
              · have h := g_ff c17 h
                refine g_iconst (v := 2) C dX4_match_201 (by decide) ?_
                obtain ⟨rfl, rfl⟩ := Prod.mk.inj (Option.some.inj h)
                exact g_reti C hr dX4_match_202
            · have h := g_tt c14 h
              refine g_sub [3, 2, 4, 1, 0] rfl ?_
              exact wX4_match_b111 hN C hr hK11 h
        · have h := g_tt c10 h
          refine g_goto C dX4_match_86 (tgt := 255) (by decide) ?_
          refine g_sub [3, 2, 4] rfl ?_
          exact wX4_match_b255 hN C hr hK11 h
      · have h := g_ff c5 h
        refine g_aload_n C 1 dX4_match_34 rfl ?_
        refine g_iconst (v := (-1)) C dX4_match_35 (by decide) ?_
        refine g_aload_n C 1 dX4_match_36 rfl ?_
        refine g_get (v := gr 135) C 129 5 (by omega) rfl rfl gu_4 (by decide) qf_X4_27 rfl dX4_match_37 ?_
        refine g_iload_n C 0 dX4_match_40 rfl ?_
        obtain ⟨hg25, h⟩ := g_gd h
        refine g_iald C 135 (by omega) rfl rfl hg25 dX4_match_41 ?_
        refine g_isub C dX4_match_42 ?_
        refine g_aload_n C 1 dX4_match_43 rfl ?_
        refine g_get (v := gr 136) C 129 6 (by omega) rfl rfl gu_4 (by decide) qf_X4_30 rfl dX4_match_44 ?_
        refine g_iload_n C 0 dX4_match_47 rfl ?_
        obtain ⟨hg26, h⟩ := g_gd h
        refine g_iald C 136 (by omega) rfl rfl hg26 dX4_match_48 ?_
        obtain ⟨q27, eq27, h⟩ := g_bd h
        refine g_callvV C 129 [gi ((-1) - (A 135 v3.toNatClampNeg)), gi (A 136 v3.toNatClampNeg)] (kX4_give hN eq27) qs_X4_59 (by omega) (by omega) rfl rfl rfl rfl (Nat.le_of_ble_eq_true rfl) ⟨Nat.zero_le _, Nat.zero_le _⟩ dX4_match_49 ?_
        refine g_goto C dX4_match_52 (tgt := 255) (by decide) ?_
        refine g_sub [1, 0, 2] rfl ?_
        exact wX4_match_b255 hN C hr hK11 h

set_option maxHeartbeats 2000000 in
set_option maxRecDepth 20000 in
theorem wX4_match_L11 (hN : 183 ≤ N) {A0 A' : gM} {r : Int32} (C : gC p R s m args meth c cX4_match RX4 9 D g (va_A (gw g ad ln A0 N) s.heap.size) 2) (hr : meth.sig.returnType = some .int)  : ∀ (f : Nat) {A : gM} {x3 : Int32} {x4 : Int32}, mX4_match_L11 f A x3 x4 = some (A', r) → gJ p l e R s m args below meth c (gEi below D g N ad ln A0 A' r args s) 9 D g (va_A (gw g ad ln A0 N) s.heap.size) N ad ln A [(0, gr 129), (3, gi x3), (4, gi x4)] 0 0 11 []
  | 0, A, x3, x4, h => by cases h
  | f + 1, A, x3, x4, h => wX4_match_b11 hN C hr (fun {A} {x3} {x4} h => wX4_match_L11 hN C hr f h) h
set_option maxHeartbeats 2000000 in
set_option maxRecDepth 20000 in
theorem wX4_match_b0 (hN : 183 ≤ N) {A0 A' : gM} {r : Int32} (C : gC p R s m args meth c cX4_match RX4 9 D g (va_A (gw g ad ln A0 N) s.heap.size) 2) (hr : meth.sig.returnType = some .int)  {A : gM} {x1 : Int32} {x2 : Int32} (h : mX4_match_b0 A x1 x2 = some (A', r)) : gJ p l e R s m args below meth c (gEi below D g N ad ln A0 A' r args s) 9 D g (va_A (gw g ad ln A0 N) s.heap.size) N ad ln A [(0, gr 129), (1, gi x1), (2, gi x2)] 0 0 0 [] := by
  unfold mX4_match_b0 at h
  refine g_aload_n C 0 dX4_match_0 rfl ?_
  refine g_iconst (v := 0) C dX4_match_1 (by decide) ?_
  refine g_iload_n C 1 dX4_match_2 rfl ?_
  refine g_iload_n C 2 dX4_match_3 rfl ?_
  obtain ⟨q1, eq1, h⟩ := g_bd h
  refine g_calliV C 129 [gi 0, gi x1, gi x2] (kX4_putPair hN eq1) qs_X4_56 (by omega) (by omega) rfl rfl rfl rfl (Nat.le_of_ble_eq_true rfl) ⟨Nat.zero_le _, Nat.zero_le _⟩ dX4_match_4 ?_
  refine g_istore_n C dX4_match_7 (by decide) rfl ?_
  refine g_iconst (v := 0) C dX4_match_8 (by decide) ?_
  refine g_istore C dX4_match_9 (by decide) rfl ?_
  refine g_sub [2, 1, 0] rfl ?_
  exact wX4_match_L11 hN C hr gF h

set_option maxHeartbeats 2000000 in
set_option maxRecDepth 20000 in
theorem kX4_match {l : Launch} {D : va_G} {g : gT} {N : Nat} {ad ln : Nat → Nat} (hN : 183 ≤ N) {A A' : gM} {x1 : Int32} {x2 : Int32} {r : Int32} (h : mX4_match A x1 x2 = some (A', r)) : gKi l yX4_match cX4_match 9 (some .int) (2) D g N ad ln A [gr 129, gi x1, gi x2] A' r := by
  refine g_meti (by decide) (Nat.le_of_ble_eq_true rfl) ?_
  intro p e s m args below meth c C hr
  refine g_sub [0, 1, 2] rfl ?_
  exact wX4_match_b0 hN C hr h
end T4
