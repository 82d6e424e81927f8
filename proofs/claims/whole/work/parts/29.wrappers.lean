theorem qs_L_17 : g_site RL RX5 17 yX5_name cX5_name 2 (some .int) 1 := ⟨g_tb (List.mem_of_getElem? (i := 561) (by decide +kernel)) (by decide +kernel), g_tb (List.mem_of_getElem? (i := 562) (by decide +kernel)) (by decide +kernel), g_tb (List.mem_of_getElem? (i := 563) (by decide +kernel)) (by decide +kernel), g_tb (List.mem_of_getElem? (i := 73) (by decide +kernel)) (by decide +kernel), g_tb (List.mem_of_getElem? (i := 564) (by decide +kernel)) (by decide +kernel), ⟨rfl, by decide, by decide, by decide +kernel⟩, by decide⟩
theorem qs_L_20 : g_site RL RX5 20 yX5_wheel cX5_wheel 3 (some .int) 2 := ⟨g_tb (List.mem_of_getElem? (i := 569) (by decide +kernel)) (by decide +kernel), g_tb (List.mem_of_getElem? (i := 570) (by decide +kernel)) (by decide +kernel), g_tb (List.mem_of_getElem? (i := 571) (by decide +kernel)) (by decide +kernel), g_tb (List.mem_of_getElem? (i := 73) (by decide +kernel)) (by decide +kernel), g_tb (List.mem_of_getElem? (i := 572) (by decide +kernel)) (by decide +kernel), ⟨rfl, by decide, by decide, by decide +kernel⟩, by decide⟩
theorem qs_L_26 : g_site RL RX5 26 yX5_turn cX5_turn 3 (some .int) 2 := ⟨g_tb (List.mem_of_getElem? (i := 599) (by decide +kernel)) (by decide +kernel), g_tb (List.mem_of_getElem? (i := 600) (by decide +kernel)) (by decide +kernel), g_tb (List.mem_of_getElem? (i := 601) (by decide +kernel)) (by decide +kernel), g_tb (List.mem_of_getElem? (i := 73) (by decide +kernel)) (by decide +kernel), g_tb (List.mem_of_getElem? (i := 602) (by decide +kernel)) (by decide +kernel), ⟨rfl, by decide, by decide, by decide +kernel⟩, by decide⟩
theorem qs_L_29 : g_site RL RX5 29 yX5_tell cX5_tell 4 (some .int) 3 := ⟨g_tb (List.mem_of_getElem? (i := 606) (by decide +kernel)) (by decide +kernel), g_tb (List.mem_of_getElem? (i := 607) (by decide +kernel)) (by decide +kernel), g_tb (List.mem_of_getElem? (i := 608) (by decide +kernel)) (by decide +kernel), g_tb (List.mem_of_getElem? (i := 73) (by decide +kernel)) (by decide +kernel), g_tb (List.mem_of_getElem? (i := 609) (by decide +kernel)) (by decide +kernel), ⟨rfl, by decide, by decide, by decide +kernel⟩, by decide⟩
theorem qs_L_33 : g_site RL RX5 33 yX5_axle cX5_axle 3 (some .int) 2 := ⟨g_tb (List.mem_of_getElem? (i := 613) (by decide +kernel)) (by decide +kernel), g_tb (List.mem_of_getElem? (i := 614) (by decide +kernel)) (by decide +kernel), g_tb (List.mem_of_getElem? (i := 615) (by decide +kernel)) (by decide +kernel), g_tb (List.mem_of_getElem? (i := 73) (by decide +kernel)) (by decide +kernel), g_tb (List.mem_of_getElem? (i := 616) (by decide +kernel)) (by decide +kernel), ⟨rfl, by decide, by decide, by decide +kernel⟩, by decide⟩
theorem qs_L_36 : g_site RL RX5 36 yX5_end cX5_end 3 (some .int) 2 := ⟨g_tb (List.mem_of_getElem? (i := 620) (by decide +kernel)) (by decide +kernel), g_tb (List.mem_of_getElem? (i := 621) (by decide +kernel)) (by decide +kernel), g_tb (List.mem_of_getElem? (i := 622) (by decide +kernel)) (by decide +kernel), g_tb (List.mem_of_getElem? (i := 73) (by decide +kernel)) (by decide +kernel), g_tb (List.mem_of_getElem? (i := 623) (by decide +kernel)) (by decide +kernel), ⟨rfl, by decide, by decide, by decide +kernel⟩, by decide⟩
theorem qs_L_39 : g_site RL RX5 39 yX5_either cX5_either 4 (some .int) 3 := ⟨g_tb (List.mem_of_getElem? (i := 627) (by decide +kernel)) (by decide +kernel), g_tb (List.mem_of_getElem? (i := 628) (by decide +kernel)) (by decide +kernel), g_tb (List.mem_of_getElem? (i := 629) (by decide +kernel)) (by decide +kernel), g_tb (List.mem_of_getElem? (i := 73) (by decide +kernel)) (by decide +kernel), g_tb (List.mem_of_getElem? (i := 630) (by decide +kernel)) (by decide +kernel), ⟨rfl, by decide, by decide, by decide +kernel⟩, by decide⟩
theorem qs_L_42 : g_site RL RX5 42 yX5_undo cX5_undo 2 (some .int) 0 := ⟨g_tb (List.mem_of_getElem? (i := 634) (by decide +kernel)) (by decide +kernel), g_tb (List.mem_of_getElem? (i := 635) (by decide +kernel)) (by decide +kernel), g_tb (List.mem_of_getElem? (i := 636) (by decide +kernel)) (by decide +kernel), g_tb (List.mem_of_getElem? (i := 73) (by decide +kernel)) (by decide +kernel), g_tb (List.mem_of_getElem? (i := 637) (by decide +kernel)) (by decide +kernel), ⟨rfl, by decide, by decide, by decide +kernel⟩, by decide⟩
theorem qs_L_46 : g_site RL RX5 46 yX5_part cX5_part 3 (some .int) 2 := ⟨g_tb (List.mem_of_getElem? (i := 645) (by decide +kernel)) (by decide +kernel), g_tb (List.mem_of_getElem? (i := 646) (by decide +kernel)) (by decide +kernel), g_tb (List.mem_of_getElem? (i := 647) (by decide +kernel)) (by decide +kernel), g_tb (List.mem_of_getElem? (i := 73) (by decide +kernel)) (by decide +kernel), g_tb (List.mem_of_getElem? (i := 648) (by decide +kernel)) (by decide +kernel), ⟨rfl, by decide, by decide, by decide +kernel⟩, by decide⟩
theorem qs_L_49 : g_site RL RX5 49 yX5_type cX5_type 3 (some .int) 2 := ⟨g_tb (List.mem_of_getElem? (i := 652) (by decide +kernel)) (by decide +kernel), g_tb (List.mem_of_getElem? (i := 653) (by decide +kernel)) (by decide +kernel), g_tb (List.mem_of_getElem? (i := 654) (by decide +kernel)) (by decide +kernel), g_tb (List.mem_of_getElem? (i := 73) (by decide +kernel)) (by decide +kernel), g_tb (List.mem_of_getElem? (i := 655) (by decide +kernel)) (by decide +kernel), ⟨rfl, by decide, by decide, by decide +kernel⟩, by decide⟩
theorem qs_L_52 : g_site RL RX5 52 yX5_code cX5_code 3 (some .int) 2 := ⟨g_tb (List.mem_of_getElem? (i := 659) (by decide +kernel)) (by decide +kernel), g_tb (List.mem_of_getElem? (i := 660) (by decide +kernel)) (by decide +kernel), g_tb (List.mem_of_getElem? (i := 661) (by decide +kernel)) (by decide +kernel), g_tb (List.mem_of_getElem? (i := 73) (by decide +kernel)) (by decide +kernel), g_tb (List.mem_of_getElem? (i := 662) (by decide +kernel)) (by decide +kernel), ⟨rfl, by decide, by decide, by decide +kernel⟩, by decide⟩
theorem qs_L_55 : g_site RL RX5 55 yX5_count cX5_count 2 (some .int) 1 := ⟨g_tb (List.mem_of_getElem? (i := 666) (by decide +kernel)) (by decide +kernel), g_tb (List.mem_of_getElem? (i := 667) (by decide +kernel)) (by decide +kernel), g_tb (List.mem_of_getElem? (i := 668) (by decide +kernel)) (by decide +kernel), g_tb (List.mem_of_getElem? (i := 73) (by decide +kernel)) (by decide +kernel), g_tb (List.mem_of_getElem? (i := 669) (by decide +kernel)) (by decide +kernel), ⟨rfl, by decide, by decide, by decide +kernel⟩, by decide⟩
theorem qs_L_58 : g_site RL RX5 58 yX5_same cX5_same 3 (some .boolean) 2 := ⟨g_tb (List.mem_of_getElem? (i := 673) (by decide +kernel)) (by decide +kernel), g_tb (List.mem_of_getElem? (i := 674) (by decide +kernel)) (by decide +kernel), g_tb (List.mem_of_getElem? (i := 675) (by decide +kernel)) (by decide +kernel), g_tb (List.mem_of_getElem? (i := 73) (by decide +kernel)) (by decide +kernel), g_tb (List.mem_of_getElem? (i := 676) (by decide +kernel)) (by decide +kernel), ⟨rfl, by decide, by decide, by decide +kernel⟩, by decide⟩
theorem qs_L_62 : g_site RL RX5 62 yX5_fits cX5_fits 3 (some .boolean) 2 := ⟨g_tb (List.mem_of_getElem? (i := 689) (by decide +kernel)) (by decide +kernel), g_tb (List.mem_of_getElem? (i := 690) (by decide +kernel)) (by decide +kernel), g_tb (List.mem_of_getElem? (i := 691) (by decide +kernel)) (by decide +kernel), g_tb (List.mem_of_getElem? (i := 73) (by decide +kernel)) (by decide +kernel), g_tb (List.mem_of_getElem? (i := 692) (by decide +kernel)) (by decide +kernel), ⟨rfl, by decide, by decide, by decide +kernel⟩, by decide⟩
theorem qs_L_65 : g_site RL RX5 65 yX5_goes cX5_goes 3 (some .int) 2 := ⟨g_tb (List.mem_of_getElem? (i := 708) (by decide +kernel)) (by decide +kernel), g_tb (List.mem_of_getElem? (i := 709) (by decide +kernel)) (by decide +kernel), g_tb (List.mem_of_getElem? (i := 710) (by decide +kernel)) (by decide +kernel), g_tb (List.mem_of_getElem? (i := 73) (by decide +kernel)) (by decide +kernel), g_tb (List.mem_of_getElem? (i := 711) (by decide +kernel)) (by decide +kernel), ⟨rfl, by decide, by decide, by decide +kernel⟩, by decide⟩
theorem qs_L_68 : g_site RL RX5 68 yX5_first cX5_first 3 (some .int) 1 := ⟨g_tb (List.mem_of_getElem? (i := 729) (by decide +kernel)) (by decide +kernel), g_tb (List.mem_of_getElem? (i := 730) (by decide +kernel)) (by decide +kernel), g_tb (List.mem_of_getElem? (i := 731) (by decide +kernel)) (by decide +kernel), g_tb (List.mem_of_getElem? (i := 73) (by decide +kernel)) (by decide +kernel), g_tb (List.mem_of_getElem? (i := 732) (by decide +kernel)) (by decide +kernel), ⟨rfl, by decide, by decide, by decide +kernel⟩, by decide⟩
theorem qs_L_7 : g_site RL RX5 7 yX5_plain cX5_plain 2 (some .int) 1 := ⟨g_tb (List.mem_of_getElem? (i := 263) (by decide +kernel)) (by decide +kernel), g_tb (List.mem_of_getElem? (i := 264) (by decide +kernel)) (by decide +kernel), g_tb (List.mem_of_getElem? (i := 265) (by decide +kernel)) (by decide +kernel), g_tb (List.mem_of_getElem? (i := 73) (by decide +kernel)) (by decide +kernel), g_tb (List.mem_of_getElem? (i := 266) (by decide +kernel)) (by decide +kernel), ⟨rfl, by decide, by decide, by decide +kernel⟩, by decide⟩
theorem ql_L_24 : Cond.classLink RL 24 (g_xn 0) ∈ gtb := g_tb (List.mem_of_getElem? (i := 568) (by decide +kernel)) (by decide +kernel)
theorem ql_L_15 : Cond.classLink RL 15 (g_xn 2) ∈ gtb := g_tb (List.mem_of_getElem? (i := 262) (by decide +kernel)) (by decide +kernel)
theorem qh_axle_0 : g_hand RL [(0, 10, 13, 24), (0, 10, 17, 15)] 5 0 13 := ⟨by decide, [], (⟨0, 10, 13, 24⟩ : ExceptionTableEntry), [(⟨0, 10, 17, 15⟩ : ExceptionTableEntry)], rfl, (fun z hz => by cases hz), by decide, by decide, ql_L_24, rfl⟩
theorem qh_axle_2 : g_hand RL [(0, 10, 13, 24), (0, 10, 17, 15)] 5 2 17 := ⟨by decide, [(⟨0, 10, 13, 24⟩ : ExceptionTableEntry)], (⟨0, 10, 17, 15⟩ : ExceptionTableEntry), [], rfl, List.forall_mem_cons.mpr ⟨⟨by decide, 0, by decide, by decide, ql_L_24⟩, (fun z hz => by cases hz)⟩, by decide, by decide, ql_L_15, rfl⟩
theorem qh_code_0 : g_hand RL [(0, 10, 13, 24)] 5 0 13 := ⟨by decide, [], (⟨0, 10, 13, 24⟩ : ExceptionTableEntry), [], rfl, (fun z hz => by cases hz), by decide, by decide, ql_L_24, rfl⟩
theorem qh_count_0 : g_hand RL [(0, 9, 12, 24)] 4 0 12 := ⟨by decide, [], (⟨0, 9, 12, 24⟩ : ExceptionTableEntry), [], rfl, (fun z hz => by cases hz), by decide, by decide, ql_L_24, rfl⟩
theorem qh_either_0 : g_hand RL [(0, 12, 15, 24), (0, 12, 19, 15)] 7 0 15 := ⟨by decide, [], (⟨0, 12, 15, 24⟩ : ExceptionTableEntry), [(⟨0, 12, 19, 15⟩ : ExceptionTableEntry)], rfl, (fun z hz => by cases hz), by decide, by decide, ql_L_24, rfl⟩
theorem qh_either_2 : g_hand RL [(0, 12, 15, 24), (0, 12, 19, 15)] 7 2 19 := ⟨by decide, [(⟨0, 12, 15, 24⟩ : ExceptionTableEntry)], (⟨0, 12, 19, 15⟩ : ExceptionTableEntry), [], rfl, List.forall_mem_cons.mpr ⟨⟨by decide, 0, by decide, by decide, ql_L_24⟩, (fun z hz => by cases hz)⟩, by decide, by decide, ql_L_15, rfl⟩
theorem ql_L_13 : Cond.classLink RL 13 (g_xn 1) ∈ gtb := g_tb (List.mem_of_getElem? (i := 261) (by decide +kernel)) (by decide +kernel)
theorem qh_end_0 : g_hand RL [(0, 10, 13, 24), (0, 10, 17, 13), (0, 10, 21, 15)] 5 0 13 := ⟨by decide, [], (⟨0, 10, 13, 24⟩ : ExceptionTableEntry), [(⟨0, 10, 17, 13⟩ : ExceptionTableEntry), (⟨0, 10, 21, 15⟩ : ExceptionTableEntry)], rfl, (fun z hz => by cases hz), by decide, by decide, ql_L_24, rfl⟩
theorem qh_end_1 : g_hand RL [(0, 10, 13, 24), (0, 10, 17, 13), (0, 10, 21, 15)] 5 1 17 := ⟨by decide, [(⟨0, 10, 13, 24⟩ : ExceptionTableEntry)], (⟨0, 10, 17, 13⟩ : ExceptionTableEntry), [(⟨0, 10, 21, 15⟩ : ExceptionTableEntry)], rfl, List.forall_mem_cons.mpr ⟨⟨by decide, 0, by decide, by decide, ql_L_24⟩, (fun z hz => by cases hz)⟩, by decide, by decide, ql_L_13, rfl⟩
theorem qh_end_2 : g_hand RL [(0, 10, 13, 24), (0, 10, 17, 13), (0, 10, 21, 15)] 5 2 21 := ⟨by decide, [(⟨0, 10, 13, 24⟩ : ExceptionTableEntry), (⟨0, 10, 17, 13⟩ : ExceptionTableEntry)], (⟨0, 10, 21, 15⟩ : ExceptionTableEntry), [], rfl, List.forall_mem_cons.mpr ⟨⟨by decide, 0, by decide, by decide, ql_L_24⟩, List.forall_mem_cons.mpr ⟨⟨by decide, 1, by decide, by decide, ql_L_13⟩, (fun z hz => by cases hz)⟩⟩, by decide, by decide, ql_L_15, rfl⟩
theorem qh_first_0 : g_hand RL [(0, 9, 12, 24)] 4 0 12 := ⟨by decide, [], (⟨0, 9, 12, 24⟩ : ExceptionTableEntry), [], rfl, (fun z hz => by cases hz), by decide, by decide, ql_L_24, rfl⟩
theorem qh_fits_0 : g_hand RL [(0, 17, 20, 24)] 5 0 20 := ⟨by decide, [], (⟨0, 17, 20, 24⟩ : ExceptionTableEntry), [], rfl, (fun z hz => by cases hz), by decide, by decide, ql_L_24, rfl⟩
theorem qh_goes_0 : g_hand RL [(0, 10, 13, 24)] 5 0 13 := ⟨by decide, [], (⟨0, 10, 13, 24⟩ : ExceptionTableEntry), [], rfl, (fun z hz => by cases hz), by decide, by decide, ql_L_24, rfl⟩
theorem qh_name_1 : g_hand RL [(0, 9, 12, 13), (0, 9, 15, 15)] 4 1 12 := ⟨by decide, [], (⟨0, 9, 12, 13⟩ : ExceptionTableEntry), [(⟨0, 9, 15, 15⟩ : ExceptionTableEntry)], rfl, (fun z hz => by cases hz), by decide, by decide, ql_L_13, rfl⟩
theorem qh_name_2 : g_hand RL [(0, 9, 12, 13), (0, 9, 15, 15)] 4 2 15 := ⟨by decide, [(⟨0, 9, 12, 13⟩ : ExceptionTableEntry)], (⟨0, 9, 15, 15⟩ : ExceptionTableEntry), [], rfl, List.forall_mem_cons.mpr ⟨⟨by decide, 1, by decide, by decide, ql_L_13⟩, (fun z hz => by cases hz)⟩, by decide, by decide, ql_L_15, rfl⟩
theorem qh_part_0 : g_hand RL [(0, 10, 13, 24)] 5 0 13 := ⟨by decide, [], (⟨0, 10, 13, 24⟩ : ExceptionTableEntry), [], rfl, (fun z hz => by cases hz), by decide, by decide, ql_L_24, rfl⟩
theorem qh_plain_1 : g_hand RL [(0, 9, 12, 13), (0, 9, 15, 15)] 4 1 12 := ⟨by decide, [], (⟨0, 9, 12, 13⟩ : ExceptionTableEntry), [(⟨0, 9, 15, 15⟩ : ExceptionTableEntry)], rfl, (fun z hz => by cases hz), by decide, by decide, ql_L_13, rfl⟩
theorem qh_plain_2 : g_hand RL [(0, 9, 12, 13), (0, 9, 15, 15)] 4 2 15 := ⟨by decide, [(⟨0, 9, 12, 13⟩ : ExceptionTableEntry)], (⟨0, 9, 15, 15⟩ : ExceptionTableEntry), [], rfl, List.forall_mem_cons.mpr ⟨⟨by decide, 1, by decide, by decide, ql_L_13⟩, (fun z hz => by cases hz)⟩, by decide, by decide, ql_L_15, rfl⟩
theorem qh_same_0 : g_hand RL [(0, 17, 20, 24)] 5 0 20 := ⟨by decide, [], (⟨0, 17, 20, 24⟩ : ExceptionTableEntry), [], rfl, (fun z hz => by cases hz), by decide, by decide, ql_L_24, rfl⟩
theorem qh_tell_0 : g_hand RL [(0, 12, 15, 24), (0, 12, 19, 13), (0, 12, 23, 15)] 7 0 15 := ⟨by decide, [], (⟨0, 12, 15, 24⟩ : ExceptionTableEntry), [(⟨0, 12, 19, 13⟩ : ExceptionTableEntry), (⟨0, 12, 23, 15⟩ : ExceptionTableEntry)], rfl, (fun z hz => by cases hz), by decide, by decide, ql_L_24, rfl⟩
theorem qh_tell_1 : g_hand RL [(0, 12, 15, 24), (0, 12, 19, 13), (0, 12, 23, 15)] 7 1 19 := ⟨by decide, [(⟨0, 12, 15, 24⟩ : ExceptionTableEntry)], (⟨0, 12, 19, 13⟩ : ExceptionTableEntry), [(⟨0, 12, 23, 15⟩ : ExceptionTableEntry)], rfl, List.forall_mem_cons.mpr ⟨⟨by decide, 0, by decide, by decide, ql_L_24⟩, (fun z hz => by cases hz)⟩, by decide, by decide, ql_L_13, rfl⟩
theorem qh_tell_2 : g_hand RL [(0, 12, 15, 24), (0, 12, 19, 13), (0, 12, 23, 15)] 7 2 23 := ⟨by decide, [(⟨0, 12, 15, 24⟩ : ExceptionTableEntry), (⟨0, 12, 19, 13⟩ : ExceptionTableEntry)], (⟨0, 12, 23, 15⟩ : ExceptionTableEntry), [], rfl, List.forall_mem_cons.mpr ⟨⟨by decide, 0, by decide, by decide, ql_L_24⟩, List.forall_mem_cons.mpr ⟨⟨by decide, 1, by decide, by decide, ql_L_13⟩, (fun z hz => by cases hz)⟩⟩, by decide, by decide, ql_L_15, rfl⟩
theorem qh_turn_0 : g_hand RL [(0, 10, 13, 24), (0, 10, 17, 15)] 5 0 13 := ⟨by decide, [], (⟨0, 10, 13, 24⟩ : ExceptionTableEntry), [(⟨0, 10, 17, 15⟩ : ExceptionTableEntry)], rfl, (fun z hz => by cases hz), by decide, by decide, ql_L_24, rfl⟩
theorem qh_turn_2 : g_hand RL [(0, 10, 13, 24), (0, 10, 17, 15)] 5 2 17 := ⟨by decide, [(⟨0, 10, 13, 24⟩ : ExceptionTableEntry)], (⟨0, 10, 17, 15⟩ : ExceptionTableEntry), [], rfl, List.forall_mem_cons.mpr ⟨⟨by decide, 0, by decide, by decide, ql_L_24⟩, (fun z hz => by cases hz)⟩, by decide, by decide, ql_L_15, rfl⟩
theorem qh_type_0 : g_hand RL [(0, 10, 13, 24)] 5 0 13 := ⟨by decide, [], (⟨0, 10, 13, 24⟩ : ExceptionTableEntry), [], rfl, (fun z hz => by cases hz), by decide, by decide, ql_L_24, rfl⟩
theorem qh_undo_2 : g_hand RL [(0, 8, 11, 15)] 3 2 11 := ⟨by decide, [], (⟨0, 8, 11, 15⟩ : ExceptionTableEntry), [], rfl, (fun z hz => by cases hz), by decide, by decide, ql_L_15, rfl⟩
theorem qh_wheel_0 : g_hand RL [(0, 10, 13, 24), (0, 10, 17, 13), (0, 10, 21, 15)] 5 0 13 := ⟨by decide, [], (⟨0, 10, 13, 24⟩ : ExceptionTableEntry), [(⟨0, 10, 17, 13⟩ : ExceptionTableEntry), (⟨0, 10, 21, 15⟩ : ExceptionTableEntry)], rfl, (fun z hz => by cases hz), by decide, by decide, ql_L_24, rfl⟩
theorem qh_wheel_1 : g_hand RL [(0, 10, 13, 24), (0, 10, 17, 13), (0, 10, 21, 15)] 5 1 17 := ⟨by decide, [(⟨0, 10, 13, 24⟩ : ExceptionTableEntry)], (⟨0, 10, 17, 13⟩ : ExceptionTableEntry), [(⟨0, 10, 21, 15⟩ : ExceptionTableEntry)], rfl, List.forall_mem_cons.mpr ⟨⟨by decide, 0, by decide, by decide, ql_L_24⟩, (fun z hz => by cases hz)⟩, by decide, by decide, ql_L_13, rfl⟩
theorem qh_wheel_2 : g_hand RL [(0, 10, 13, 24), (0, 10, 17, 13), (0, 10, 21, 15)] 5 2 21 := ⟨by decide, [(⟨0, 10, 13, 24⟩ : ExceptionTableEntry), (⟨0, 10, 17, 13⟩ : ExceptionTableEntry)], (⟨0, 10, 21, 15⟩ : ExceptionTableEntry), [], rfl, List.forall_mem_cons.mpr ⟨⟨by decide, 0, by decide, by decide, ql_L_24⟩, List.forall_mem_cons.mpr ⟨⟨by decide, 1, by decide, by decide, ql_L_13⟩, (fun z hz => by cases hz)⟩⟩, by decide, by decide, ql_L_15, rfl⟩
theorem dL_plain_0 : decode cL_plain 0 = .ok (.aload_n 2, 1) := by decide +kernel
theorem dL_plain_1 : decode cL_plain 1 = .ok (.iconst 0, 1) := by decide +kernel
theorem dL_plain_2 : decode cL_plain 2 = .ok (.aload_n 0, 1) := by decide +kernel
theorem dL_plain_3 : decode cL_plain 3 = .ok (.iload_n 1, 1) := by decide +kernel
theorem dL_plain_4 : decode cL_plain 4 = .ok (.invokevirtual 7, 3) := by decide +kernel
theorem dL_plain_7 : decode cL_plain 7 = .ok (.i2l, 1) := by decide +kernel
theorem dL_plain_8 : decode cL_plain 8 = .ok (.lastore, 1) := by decide +kernel
theorem dL_plain_9 : decode cL_plain 9 = .ok (.goto 9, 3) := by decide +kernel
theorem dL_plain_12 : decode cL_plain 12 = .ok (.astore_n 3, 1) := by decide +kernel
theorem dL_plain_13 : decode cL_plain 13 = .ok (.iconst 1, 1) := by decide +kernel
theorem dL_plain_14 : decode cL_plain 14 = .ok (.ireturn, 1) := by decide +kernel
theorem dL_plain_15 : decode cL_plain 15 = .ok (.astore_n 3, 1) := by decide +kernel
theorem dL_plain_16 : decode cL_plain 16 = .ok (.iconst 2, 1) := by decide +kernel
theorem dL_plain_17 : decode cL_plain 17 = .ok (.ireturn, 1) := by decide +kernel
theorem dL_plain_18 : decode cL_plain 18 = .ok (.iconst 0, 1) := by decide +kernel
theorem dL_plain_19 : decode cL_plain 19 = .ok (.ireturn, 1) := by decide +kernel
theorem dL_name_0 : decode cL_name 0 = .ok (.aload_n 2, 1) := by decide +kernel
theorem dL_name_1 : decode cL_name 1 = .ok (.iconst 0, 1) := by decide +kernel
theorem dL_name_2 : decode cL_name 2 = .ok (.aload_n 0, 1) := by decide +kernel
theorem dL_name_3 : decode cL_name 3 = .ok (.iload_n 1, 1) := by decide +kernel
theorem dL_name_4 : decode cL_name 4 = .ok (.invokevirtual 17, 3) := by decide +kernel
theorem dL_name_7 : decode cL_name 7 = .ok (.i2l, 1) := by decide +kernel
theorem dL_name_8 : decode cL_name 8 = .ok (.lastore, 1) := by decide +kernel
theorem dL_name_9 : decode cL_name 9 = .ok (.goto 9, 3) := by decide +kernel
theorem dL_name_12 : decode cL_name 12 = .ok (.astore_n 3, 1) := by decide +kernel
theorem dL_name_13 : decode cL_name 13 = .ok (.iconst 1, 1) := by decide +kernel
theorem dL_name_14 : decode cL_name 14 = .ok (.ireturn, 1) := by decide +kernel
theorem dL_name_15 : decode cL_name 15 = .ok (.astore_n 3, 1) := by decide +kernel
theorem dL_name_16 : decode cL_name 16 = .ok (.iconst 2, 1) := by decide +kernel
theorem dL_name_17 : decode cL_name 17 = .ok (.ireturn, 1) := by decide +kernel
theorem dL_name_18 : decode cL_name 18 = .ok (.iconst 0, 1) := by decide +kernel
theorem dL_name_19 : decode cL_name 19 = .ok (.ireturn, 1) := by decide +kernel
theorem dL_wheel_0 : decode cL_wheel 0 = .ok (.aload_n 3, 1) := by decide +kernel
theorem dL_wheel_1 : decode cL_wheel 1 = .ok (.iconst 0, 1) := by decide +kernel
theorem dL_wheel_2 : decode cL_wheel 2 = .ok (.aload_n 0, 1) := by decide +kernel
theorem dL_wheel_3 : decode cL_wheel 3 = .ok (.iload_n 1, 1) := by decide +kernel
theorem dL_wheel_4 : decode cL_wheel 4 = .ok (.iload_n 2, 1) := by decide +kernel
theorem dL_wheel_5 : decode cL_wheel 5 = .ok (.invokevirtual 20, 3) := by decide +kernel
theorem dL_wheel_8 : decode cL_wheel 8 = .ok (.i2l, 1) := by decide +kernel
theorem dL_wheel_9 : decode cL_wheel 9 = .ok (.lastore, 1) := by decide +kernel
theorem dL_wheel_10 : decode cL_wheel 10 = .ok (.goto 15, 3) := by decide +kernel
theorem dL_wheel_13 : decode cL_wheel 13 = .ok (.astore 4, 2) := by decide +kernel
theorem dL_wheel_15 : decode cL_wheel 15 = .ok (.iconst 1, 1) := by decide +kernel
theorem dL_wheel_16 : decode cL_wheel 16 = .ok (.ireturn, 1) := by decide +kernel
theorem dL_wheel_17 : decode cL_wheel 17 = .ok (.astore 4, 2) := by decide +kernel
theorem dL_wheel_19 : decode cL_wheel 19 = .ok (.iconst 2, 1) := by decide +kernel
theorem dL_wheel_20 : decode cL_wheel 20 = .ok (.ireturn, 1) := by decide +kernel
theorem dL_wheel_21 : decode cL_wheel 21 = .ok (.astore 4, 2) := by decide +kernel
theorem dL_wheel_23 : decode cL_wheel 23 = .ok (.iconst 3, 1) := by decide +kernel
theorem dL_wheel_24 : decode cL_wheel 24 = .ok (.ireturn, 1) := by decide +kernel
theorem dL_wheel_25 : decode cL_wheel 25 = .ok (.iconst 0, 1) := by decide +kernel
theorem dL_wheel_26 : decode cL_wheel 26 = .ok (.ireturn, 1) := by decide +kernel
theorem dL_turn_0 : decode cL_turn 0 = .ok (.aload_n 3, 1) := by decide +kernel
theorem dL_turn_1 : decode cL_turn 1 = .ok (.iconst 0, 1) := by decide +kernel
theorem dL_turn_2 : decode cL_turn 2 = .ok (.aload_n 0, 1) := by decide +kernel
theorem dL_turn_3 : decode cL_turn 3 = .ok (.iload_n 1, 1) := by decide +kernel
theorem dL_turn_4 : decode cL_turn 4 = .ok (.iload_n 2, 1) := by decide +kernel
theorem dL_turn_5 : decode cL_turn 5 = .ok (.invokevirtual 26, 3) := by decide +kernel
theorem dL_turn_8 : decode cL_turn 8 = .ok (.i2l, 1) := by decide +kernel
theorem dL_turn_9 : decode cL_turn 9 = .ok (.lastore, 1) := by decide +kernel
theorem dL_turn_10 : decode cL_turn 10 = .ok (.goto 11, 3) := by decide +kernel
theorem dL_turn_13 : decode cL_turn 13 = .ok (.astore 4, 2) := by decide +kernel
theorem dL_turn_15 : decode cL_turn 15 = .ok (.iconst 1, 1) := by decide +kernel
theorem dL_turn_16 : decode cL_turn 16 = .ok (.ireturn, 1) := by decide +kernel
theorem dL_turn_17 : decode cL_turn 17 = .ok (.astore 4, 2) := by decide +kernel
theorem dL_turn_19 : decode cL_turn 19 = .ok (.iconst 2, 1) := by decide +kernel
theorem dL_turn_20 : decode cL_turn 20 = .ok (.ireturn, 1) := by decide +kernel
theorem dL_turn_21 : decode cL_turn 21 = .ok (.iconst 0, 1) := by decide +kernel
theorem dL_turn_22 : decode cL_turn 22 = .ok (.ireturn, 1) := by decide +kernel
theorem dL_tell_0 : decode cL_tell 0 = .ok (.aload 4, 2) := by decide +kernel
theorem dL_tell_2 : decode cL_tell 2 = .ok (.iconst 0, 1) := by decide +kernel
theorem dL_tell_3 : decode cL_tell 3 = .ok (.aload_n 0, 1) := by decide +kernel
theorem dL_tell_4 : decode cL_tell 4 = .ok (.iload_n 1, 1) := by decide +kernel
theorem dL_tell_5 : decode cL_tell 5 = .ok (.iload_n 2, 1) := by decide +kernel
theorem dL_tell_6 : decode cL_tell 6 = .ok (.iload_n 3, 1) := by decide +kernel
theorem dL_tell_7 : decode cL_tell 7 = .ok (.invokevirtual 29, 3) := by decide +kernel
theorem dL_tell_10 : decode cL_tell 10 = .ok (.i2l, 1) := by decide +kernel
theorem dL_tell_11 : decode cL_tell 11 = .ok (.lastore, 1) := by decide +kernel
theorem dL_tell_12 : decode cL_tell 12 = .ok (.goto 15, 3) := by decide +kernel
theorem dL_tell_15 : decode cL_tell 15 = .ok (.astore 5, 2) := by decide +kernel
theorem dL_tell_17 : decode cL_tell 17 = .ok (.iconst 1, 1) := by decide +kernel
theorem dL_tell_18 : decode cL_tell 18 = .ok (.ireturn, 1) := by decide +kernel
theorem dL_tell_19 : decode cL_tell 19 = .ok (.astore 5, 2) := by decide +kernel
theorem dL_tell_21 : decode cL_tell 21 = .ok (.iconst 2, 1) := by decide +kernel
theorem dL_tell_22 : decode cL_tell 22 = .ok (.ireturn, 1) := by decide +kernel
theorem dL_tell_23 : decode cL_tell 23 = .ok (.astore 5, 2) := by decide +kernel
theorem dL_tell_25 : decode cL_tell 25 = .ok (.iconst 3, 1) := by decide +kernel
theorem dL_tell_26 : decode cL_tell 26 = .ok (.ireturn, 1) := by decide +kernel
theorem dL_tell_27 : decode cL_tell 27 = .ok (.iconst 0, 1) := by decide +kernel
theorem dL_tell_28 : decode cL_tell 28 = .ok (.ireturn, 1) := by decide +kernel
theorem dL_axle_0 : decode cL_axle 0 = .ok (.aload_n 3, 1) := by decide +kernel
theorem dL_axle_1 : decode cL_axle 1 = .ok (.iconst 0, 1) := by decide +kernel
theorem dL_axle_2 : decode cL_axle 2 = .ok (.aload_n 0, 1) := by decide +kernel
theorem dL_axle_3 : decode cL_axle 3 = .ok (.iload_n 1, 1) := by decide +kernel
theorem dL_axle_4 : decode cL_axle 4 = .ok (.iload_n 2, 1) := by decide +kernel
theorem dL_axle_5 : decode cL_axle 5 = .ok (.invokevirtual 33, 3) := by decide +kernel
theorem dL_axle_8 : decode cL_axle 8 = .ok (.i2l, 1) := by decide +kernel
theorem dL_axle_9 : decode cL_axle 9 = .ok (.lastore, 1) := by decide +kernel
theorem dL_axle_10 : decode cL_axle 10 = .ok (.goto 11, 3) := by decide +kernel
theorem dL_axle_13 : decode cL_axle 13 = .ok (.astore 4, 2) := by decide +kernel
theorem dL_axle_15 : decode cL_axle 15 = .ok (.iconst 1, 1) := by decide +kernel
theorem dL_axle_16 : decode cL_axle 16 = .ok (.ireturn, 1) := by decide +kernel
theorem dL_axle_17 : decode cL_axle 17 = .ok (.astore 4, 2) := by decide +kernel
theorem dL_axle_19 : decode cL_axle 19 = .ok (.iconst 2, 1) := by decide +kernel
theorem dL_axle_20 : decode cL_axle 20 = .ok (.ireturn, 1) := by decide +kernel
theorem dL_axle_21 : decode cL_axle 21 = .ok (.iconst 0, 1) := by decide +kernel
theorem dL_axle_22 : decode cL_axle 22 = .ok (.ireturn, 1) := by decide +kernel
theorem dL_end_0 : decode cL_end 0 = .ok (.aload_n 3, 1) := by decide +kernel
theorem dL_end_1 : decode cL_end 1 = .ok (.iconst 0, 1) := by decide +kernel
theorem dL_end_2 : decode cL_end 2 = .ok (.aload_n 0, 1) := by decide +kernel
theorem dL_end_3 : decode cL_end 3 = .ok (.iload_n 1, 1) := by decide +kernel
theorem dL_end_4 : decode cL_end 4 = .ok (.iload_n 2, 1) := by decide +kernel
theorem dL_end_5 : decode cL_end 5 = .ok (.invokevirtual 36, 3) := by decide +kernel
theorem dL_end_8 : decode cL_end 8 = .ok (.i2l, 1) := by decide +kernel
theorem dL_end_9 : decode cL_end 9 = .ok (.lastore, 1) := by decide +kernel
theorem dL_end_10 : decode cL_end 10 = .ok (.goto 15, 3) := by decide +kernel
theorem dL_end_13 : decode cL_end 13 = .ok (.astore 4, 2) := by decide +kernel
theorem dL_end_15 : decode cL_end 15 = .ok (.iconst 1, 1) := by decide +kernel
theorem dL_end_16 : decode cL_end 16 = .ok (.ireturn, 1) := by decide +kernel
theorem dL_end_17 : decode cL_end 17 = .ok (.astore 4, 2) := by decide +kernel
theorem dL_end_19 : decode cL_end 19 = .ok (.iconst 2, 1) := by decide +kernel
theorem dL_end_20 : decode cL_end 20 = .ok (.ireturn, 1) := by decide +kernel
theorem dL_end_21 : decode cL_end 21 = .ok (.astore 4, 2) := by decide +kernel
theorem dL_end_23 : decode cL_end 23 = .ok (.iconst 3, 1) := by decide +kernel
theorem dL_end_24 : decode cL_end 24 = .ok (.ireturn, 1) := by decide +kernel
theorem dL_end_25 : decode cL_end 25 = .ok (.iconst 0, 1) := by decide +kernel
theorem dL_end_26 : decode cL_end 26 = .ok (.ireturn, 1) := by decide +kernel
theorem dL_either_0 : decode cL_either 0 = .ok (.aload 4, 2) := by decide +kernel
theorem dL_either_2 : decode cL_either 2 = .ok (.iconst 0, 1) := by decide +kernel
theorem dL_either_3 : decode cL_either 3 = .ok (.aload_n 0, 1) := by decide +kernel
theorem dL_either_4 : decode cL_either 4 = .ok (.iload_n 1, 1) := by decide +kernel
theorem dL_either_5 : decode cL_either 5 = .ok (.iload_n 2, 1) := by decide +kernel
theorem dL_either_6 : decode cL_either 6 = .ok (.iload_n 3, 1) := by decide +kernel
theorem dL_either_7 : decode cL_either 7 = .ok (.invokevirtual 39, 3) := by decide +kernel
theorem dL_either_10 : decode cL_either 10 = .ok (.i2l, 1) := by decide +kernel
theorem dL_either_11 : decode cL_either 11 = .ok (.lastore, 1) := by decide +kernel
theorem dL_either_12 : decode cL_either 12 = .ok (.goto 11, 3) := by decide +kernel
theorem dL_either_15 : decode cL_either 15 = .ok (.astore 5, 2) := by decide +kernel
theorem dL_either_17 : decode cL_either 17 = .ok (.iconst 1, 1) := by decide +kernel
theorem dL_either_18 : decode cL_either 18 = .ok (.ireturn, 1) := by decide +kernel
theorem dL_either_19 : decode cL_either 19 = .ok (.astore 5, 2) := by decide +kernel
theorem dL_either_21 : decode cL_either 21 = .ok (.iconst 2, 1) := by decide +kernel
theorem dL_either_22 : decode cL_either 22 = .ok (.ireturn, 1) := by decide +kernel
theorem dL_either_23 : decode cL_either 23 = .ok (.iconst 0, 1) := by decide +kernel
theorem dL_either_24 : decode cL_either 24 = .ok (.ireturn, 1) := by decide +kernel
theorem dL_undo_0 : decode cL_undo 0 = .ok (.aload_n 1, 1) := by decide +kernel
theorem dL_undo_1 : decode cL_undo 1 = .ok (.iconst 0, 1) := by decide +kernel
theorem dL_undo_2 : decode cL_undo 2 = .ok (.aload_n 0, 1) := by decide +kernel
theorem dL_undo_3 : decode cL_undo 3 = .ok (.invokevirtual 42, 3) := by decide +kernel
theorem dL_undo_6 : decode cL_undo 6 = .ok (.i2l, 1) := by decide +kernel
theorem dL_undo_7 : decode cL_undo 7 = .ok (.lastore, 1) := by decide +kernel
theorem dL_undo_8 : decode cL_undo 8 = .ok (.goto 6, 3) := by decide +kernel
theorem dL_undo_11 : decode cL_undo 11 = .ok (.astore_n 2, 1) := by decide +kernel
theorem dL_undo_12 : decode cL_undo 12 = .ok (.iconst 1, 1) := by decide +kernel
theorem dL_undo_13 : decode cL_undo 13 = .ok (.ireturn, 1) := by decide +kernel
theorem dL_undo_14 : decode cL_undo 14 = .ok (.iconst 0, 1) := by decide +kernel
theorem dL_undo_15 : decode cL_undo 15 = .ok (.ireturn, 1) := by decide +kernel
theorem dL_part_0 : decode cL_part 0 = .ok (.aload_n 3, 1) := by decide +kernel
theorem dL_part_1 : decode cL_part 1 = .ok (.iconst 0, 1) := by decide +kernel
theorem dL_part_2 : decode cL_part 2 = .ok (.aload_n 0, 1) := by decide +kernel
theorem dL_part_3 : decode cL_part 3 = .ok (.iload_n 1, 1) := by decide +kernel
theorem dL_part_4 : decode cL_part 4 = .ok (.iload_n 2, 1) := by decide +kernel
theorem dL_part_5 : decode cL_part 5 = .ok (.invokevirtual 46, 3) := by decide +kernel
theorem dL_part_8 : decode cL_part 8 = .ok (.i2l, 1) := by decide +kernel
theorem dL_part_9 : decode cL_part 9 = .ok (.lastore, 1) := by decide +kernel
theorem dL_part_10 : decode cL_part 10 = .ok (.goto 7, 3) := by decide +kernel
theorem dL_part_13 : decode cL_part 13 = .ok (.astore 4, 2) := by decide +kernel
theorem dL_part_15 : decode cL_part 15 = .ok (.iconst 1, 1) := by decide +kernel
theorem dL_part_16 : decode cL_part 16 = .ok (.ireturn, 1) := by decide +kernel
theorem dL_part_17 : decode cL_part 17 = .ok (.iconst 0, 1) := by decide +kernel
theorem dL_part_18 : decode cL_part 18 = .ok (.ireturn, 1) := by decide +kernel
theorem dL_type_0 : decode cL_type 0 = .ok (.aload_n 3, 1) := by decide +kernel
theorem dL_type_1 : decode cL_type 1 = .ok (.iconst 0, 1) := by decide +kernel
theorem dL_type_2 : decode cL_type 2 = .ok (.aload_n 0, 1) := by decide +kernel
theorem dL_type_3 : decode cL_type 3 = .ok (.iload_n 1, 1) := by decide +kernel
theorem dL_type_4 : decode cL_type 4 = .ok (.iload_n 2, 1) := by decide +kernel
theorem dL_type_5 : decode cL_type 5 = .ok (.invokevirtual 49, 3) := by decide +kernel
theorem dL_type_8 : decode cL_type 8 = .ok (.i2l, 1) := by decide +kernel
theorem dL_type_9 : decode cL_type 9 = .ok (.lastore, 1) := by decide +kernel
theorem dL_type_10 : decode cL_type 10 = .ok (.goto 7, 3) := by decide +kernel
theorem dL_type_13 : decode cL_type 13 = .ok (.astore 4, 2) := by decide +kernel
theorem dL_type_15 : decode cL_type 15 = .ok (.iconst 1, 1) := by decide +kernel
theorem dL_type_16 : decode cL_type 16 = .ok (.ireturn, 1) := by decide +kernel
theorem dL_type_17 : decode cL_type 17 = .ok (.iconst 0, 1) := by decide +kernel
theorem dL_type_18 : decode cL_type 18 = .ok (.ireturn, 1) := by decide +kernel
theorem dL_code_0 : decode cL_code 0 = .ok (.aload_n 3, 1) := by decide +kernel
theorem dL_code_1 : decode cL_code 1 = .ok (.iconst 0, 1) := by decide +kernel
theorem dL_code_2 : decode cL_code 2 = .ok (.aload_n 0, 1) := by decide +kernel
theorem dL_code_3 : decode cL_code 3 = .ok (.iload_n 1, 1) := by decide +kernel
theorem dL_code_4 : decode cL_code 4 = .ok (.iload_n 2, 1) := by decide +kernel
theorem dL_code_5 : decode cL_code 5 = .ok (.invokevirtual 52, 3) := by decide +kernel
theorem dL_code_8 : decode cL_code 8 = .ok (.i2l, 1) := by decide +kernel
theorem dL_code_9 : decode cL_code 9 = .ok (.lastore, 1) := by decide +kernel
theorem dL_code_10 : decode cL_code 10 = .ok (.goto 7, 3) := by decide +kernel
theorem dL_code_13 : decode cL_code 13 = .ok (.astore 4, 2) := by decide +kernel
theorem dL_code_15 : decode cL_code 15 = .ok (.iconst 1, 1) := by decide +kernel
theorem dL_code_16 : decode cL_code 16 = .ok (.ireturn, 1) := by decide +kernel
theorem dL_code_17 : decode cL_code 17 = .ok (.iconst 0, 1) := by decide +kernel
theorem dL_code_18 : decode cL_code 18 = .ok (.ireturn, 1) := by decide +kernel
theorem dL_count_0 : decode cL_count 0 = .ok (.aload_n 2, 1) := by decide +kernel
theorem dL_count_1 : decode cL_count 1 = .ok (.iconst 0, 1) := by decide +kernel
theorem dL_count_2 : decode cL_count 2 = .ok (.aload_n 0, 1) := by decide +kernel
theorem dL_count_3 : decode cL_count 3 = .ok (.iload_n 1, 1) := by decide +kernel
theorem dL_count_4 : decode cL_count 4 = .ok (.invokevirtual 55, 3) := by decide +kernel
theorem dL_count_7 : decode cL_count 7 = .ok (.i2l, 1) := by decide +kernel
theorem dL_count_8 : decode cL_count 8 = .ok (.lastore, 1) := by decide +kernel
theorem dL_count_9 : decode cL_count 9 = .ok (.goto 6, 3) := by decide +kernel
theorem dL_count_12 : decode cL_count 12 = .ok (.astore_n 3, 1) := by decide +kernel
theorem dL_count_13 : decode cL_count 13 = .ok (.iconst 1, 1) := by decide +kernel
theorem dL_count_14 : decode cL_count 14 = .ok (.ireturn, 1) := by decide +kernel
theorem dL_count_15 : decode cL_count 15 = .ok (.iconst 0, 1) := by decide +kernel
theorem dL_count_16 : decode cL_count 16 = .ok (.ireturn, 1) := by decide +kernel
theorem dL_same_0 : decode cL_same 0 = .ok (.aload_n 3, 1) := by decide +kernel
theorem dL_same_1 : decode cL_same 1 = .ok (.iconst 0, 1) := by decide +kernel
theorem dL_same_2 : decode cL_same 2 = .ok (.aload_n 0, 1) := by decide +kernel
theorem dL_same_3 : decode cL_same 3 = .ok (.iload_n 1, 1) := by decide +kernel
theorem dL_same_4 : decode cL_same 4 = .ok (.iload_n 2, 1) := by decide +kernel
theorem dL_same_5 : decode cL_same 5 = .ok (.invokevirtual 58, 3) := by decide +kernel
theorem dL_same_8 : decode cL_same 8 = .ok (.ifCond .eq 7, 3) := by decide +kernel
theorem dL_same_11 : decode cL_same 11 = .ok (.lconst 1, 1) := by decide +kernel
theorem dL_same_12 : decode cL_same 12 = .ok (.goto 4, 3) := by decide +kernel
theorem dL_same_15 : decode cL_same 15 = .ok (.lconst 0, 1) := by decide +kernel
theorem dL_same_16 : decode cL_same 16 = .ok (.lastore, 1) := by decide +kernel
theorem dL_same_17 : decode cL_same 17 = .ok (.goto 7, 3) := by decide +kernel
theorem dL_same_20 : decode cL_same 20 = .ok (.astore 4, 2) := by decide +kernel
theorem dL_same_22 : decode cL_same 22 = .ok (.iconst 1, 1) := by decide +kernel
theorem dL_same_23 : decode cL_same 23 = .ok (.ireturn, 1) := by decide +kernel
theorem dL_same_24 : decode cL_same 24 = .ok (.iconst 0, 1) := by decide +kernel
theorem dL_same_25 : decode cL_same 25 = .ok (.ireturn, 1) := by decide +kernel
theorem dL_fits_0 : decode cL_fits 0 = .ok (.aload_n 3, 1) := by decide +kernel
theorem dL_fits_1 : decode cL_fits 1 = .ok (.iconst 0, 1) := by decide +kernel
theorem dL_fits_2 : decode cL_fits 2 = .ok (.aload_n 0, 1) := by decide +kernel
theorem dL_fits_3 : decode cL_fits 3 = .ok (.iload_n 1, 1) := by decide +kernel
theorem dL_fits_4 : decode cL_fits 4 = .ok (.iload_n 2, 1) := by decide +kernel
theorem dL_fits_5 : decode cL_fits 5 = .ok (.invokevirtual 62, 3) := by decide +kernel
theorem dL_fits_8 : decode cL_fits 8 = .ok (.ifCond .eq 7, 3) := by decide +kernel
theorem dL_fits_11 : decode cL_fits 11 = .ok (.lconst 1, 1) := by decide +kernel
theorem dL_fits_12 : decode cL_fits 12 = .ok (.goto 4, 3) := by decide +kernel
theorem dL_fits_15 : decode cL_fits 15 = .ok (.lconst 0, 1) := by decide +kernel
theorem dL_fits_16 : decode cL_fits 16 = .ok (.lastore, 1) := by decide +kernel
theorem dL_fits_17 : decode cL_fits 17 = .ok (.goto 7, 3) := by decide +kernel
theorem dL_fits_20 : decode cL_fits 20 = .ok (.astore 4, 2) := by decide +kernel
theorem dL_fits_22 : decode cL_fits 22 = .ok (.iconst 1, 1) := by decide +kernel
theorem dL_fits_23 : decode cL_fits 23 = .ok (.ireturn, 1) := by decide +kernel
theorem dL_fits_24 : decode cL_fits 24 = .ok (.iconst 0, 1) := by decide +kernel
theorem dL_fits_25 : decode cL_fits 25 = .ok (.ireturn, 1) := by decide +kernel
theorem dL_goes_0 : decode cL_goes 0 = .ok (.aload_n 3, 1) := by decide +kernel
theorem dL_goes_1 : decode cL_goes 1 = .ok (.iconst 0, 1) := by decide +kernel
theorem dL_goes_2 : decode cL_goes 2 = .ok (.aload_n 0, 1) := by decide +kernel
theorem dL_goes_3 : decode cL_goes 3 = .ok (.iload_n 1, 1) := by decide +kernel
theorem dL_goes_4 : decode cL_goes 4 = .ok (.iload_n 2, 1) := by decide +kernel
theorem dL_goes_5 : decode cL_goes 5 = .ok (.invokevirtual 65, 3) := by decide +kernel
theorem dL_goes_8 : decode cL_goes 8 = .ok (.i2l, 1) := by decide +kernel
theorem dL_goes_9 : decode cL_goes 9 = .ok (.lastore, 1) := by decide +kernel
theorem dL_goes_10 : decode cL_goes 10 = .ok (.goto 7, 3) := by decide +kernel
theorem dL_goes_13 : decode cL_goes 13 = .ok (.astore 4, 2) := by decide +kernel
theorem dL_goes_15 : decode cL_goes 15 = .ok (.iconst 1, 1) := by decide +kernel
theorem dL_goes_16 : decode cL_goes 16 = .ok (.ireturn, 1) := by decide +kernel
theorem dL_goes_17 : decode cL_goes 17 = .ok (.iconst 0, 1) := by decide +kernel
theorem dL_goes_18 : decode cL_goes 18 = .ok (.ireturn, 1) := by decide +kernel
theorem dL_first_0 : decode cL_first 0 = .ok (.aload_n 2, 1) := by decide +kernel
theorem dL_first_1 : decode cL_first 1 = .ok (.iconst 0, 1) := by decide +kernel
theorem dL_first_2 : decode cL_first 2 = .ok (.aload_n 0, 1) := by decide +kernel
theorem dL_first_3 : decode cL_first 3 = .ok (.iload_n 1, 1) := by decide +kernel
theorem dL_first_4 : decode cL_first 4 = .ok (.invokevirtual 68, 3) := by decide +kernel
theorem dL_first_7 : decode cL_first 7 = .ok (.i2l, 1) := by decide +kernel
theorem dL_first_8 : decode cL_first 8 = .ok (.lastore, 1) := by decide +kernel
theorem dL_first_9 : decode cL_first 9 = .ok (.goto 6, 3) := by decide +kernel
theorem dL_first_12 : decode cL_first 12 = .ok (.astore_n 3, 1) := by decide +kernel
theorem dL_first_13 : decode cL_first 13 = .ok (.iconst 1, 1) := by decide +kernel
theorem dL_first_14 : decode cL_first 14 = .ok (.ireturn, 1) := by decide +kernel
theorem dL_first_15 : decode cL_first 15 = .ok (.iconst 0, 1) := by decide +kernel
theorem dL_first_16 : decode cL_first 16 = .ok (.ireturn, 1) := by decide +kernel
section LW
variable {p : Program} {l : Launch} {e : Env} {R : Room} {s : State} {m : MethodId} {args : Array Value} {below : List Frame} {meth : Method} {c : Code} {D : va_G} {g : gT} {N : Nat} {ad ln : Nat → Nat}
def mL_plain_b0 (A : gM) (x1 : Int32) : Option (gM × Int32) :=
  (mX5_plain A x1).bind fun q1 => g_ct q1 (fun j => if j = 1 then some (q1.1, 1) else if j = 2 then some (q1.1, 2) else none) fun r2 =>
  if g_in 0 1 = true then g_let (g_up q1.1 192 (0 : Int32).toNatClampNeg r2) fun A3 =>
  some (A3, 0)
  else none
def mL_plain (A : gM) (x1 : Int32) : Option (gM × Int32) := mL_plain_b0 A x1
set_option maxHeartbeats 2000000 in
set_option maxRecDepth 20000 in
theorem wL_plain_b0 (hN : 193 ≤ N) {A0 A' : gM} {r : Int32} (C : gC p (g_rmx 106 2 (6 * 2)) s m args meth c cL_plain RL 4 D g (va_A (gw g ad ln A0 N) s.heap.size) 106) (CX : gCL l s c (va_A (gw g ad ln A0 N) s.heap.size) [(0, 9, 12, 13), (0, 9, 15, 15)]) (hr : meth.sig.returnType = some .int) {A : gM} {x1 : Int32} (h : mL_plain_b0 A x1 = some (A', r)) : gJ p l e (g_rmx 106 2 (6 * 2)) s m args below meth c (gEL below D g N ad ln A0 A' r 2 args s) 4 D g (va_A (gw g ad ln A0 N) s.heap.size) N ad ln A [(0, gr 0), (1, gi x1), (2, gr 192)] 0 0 0 [] := by
  unfold mL_plain_b0 at h
  refine g_aload_n C 2 dL_plain_0 rfl ?_
  refine g_iconst (v := 0) C dL_plain_1 (by decide) ?_
  refine g_aload_n C 0 dL_plain_2 rfl ?_
  refine g_iload_n C 1 dL_plain_3 rfl ?_
  obtain ⟨q1, eq1, h⟩ := g_bd h
  refine g_callC C CX 0 [gi x1] (kX5_plain (by omega) CX.1 eq1) qs_L_7 (by omega) (by omega) rfl rfl rfl rfl (Nat.le_of_ble_eq_true rfl) ⟨Nat.le_of_ble_eq_true rfl, Nat.le_of_ble_eq_true rfl⟩ dL_plain_4 (fun j hj => ?_) (fun r2 hr2 => ?_)
  · have h := g_ctx h hj
    by_cases c1 : j = 1
    · have h := g_tt c1 h
      subst c1
      obtain ⟨rfl, rfl⟩ := Prod.mk.inj (Option.some.inj h)
      refine ⟨12, qh_plain_1, fun q9 => ?_⟩
      refine g_astoreX_n C dL_plain_12 (by decide) rfl ?_
      refine g_iconst (v := 1) C dL_plain_13 (by decide) ?_
      exact g_retL C (Nat.le_of_ble_eq_true rfl) (Nat.le_of_ble_eq_true rfl) hr dL_plain_14
    have h := g_ff c1 h
    by_cases c2 : j = 2
    · have h := g_tt c2 h
      subst c2
      obtain ⟨rfl, rfl⟩ := Prod.mk.inj (Option.some.inj h)
      refine ⟨15, qh_plain_2, fun q9 => ?_⟩
      refine g_astoreX_n C dL_plain_15 (by decide) rfl ?_
      refine g_iconst (v := 2) C dL_plain_16 (by decide) ?_
      exact g_retL C (Nat.le_of_ble_eq_true rfl) (Nat.le_of_ble_eq_true rfl) hr dL_plain_17
    have h := g_ff c2 h
    cases h
  · have h := g_ctr h hr2
    refine g_i2l C dL_plain_7 ?_
    obtain ⟨hg4, h⟩ := g_gd h
    obtain ⟨A3, eA3, h⟩ := g_lt h
    refine g_last C (by omega) hg4 eA3 dL_plain_8 ?_
    refine g_goto C dL_plain_9 (tgt := 18) (by decide) ?_
    refine g_iconst (v := 0) C dL_plain_18 (by decide) ?_
    obtain ⟨rfl, rfl⟩ := Prod.mk.inj (Option.some.inj h)
    exact g_retL C (Nat.le_of_ble_eq_true rfl) (Nat.le_of_ble_eq_true rfl) hr dL_plain_19

set_option maxHeartbeats 2000000 in
set_option maxRecDepth 20000 in
theorem kL_plain {l : Launch} {D : va_G} {g : gT} {N : Nat} {ad ln : Nat → Nat} (hN : 193 ≤ N) (hl : l.stackTraces = false) {A A' : gM} {x1 : Int32} {r : Int32} (h : mL_plain A x1 = some (A', r)) : gLi l yL_plain cL_plain 4 [(0, 9, 12, 13), (0, 9, 15, 15)] 106 2 D g N ad ln A [gr 0, gi x1, gr 192] A' r := by
  refine g_metL hl (by decide) (Nat.le_of_ble_eq_true rfl) ?_
  intro p e s m args below meth c C CX hr
  refine g_sub [0, 1, 2] rfl ?_
  exact wL_plain_b0 hN C CX hr h
def mL_name_b0 (A : gM) (x1 : Int32) : Option (gM × Int32) :=
  (mX5_name A x1).bind fun q1 => g_ct q1 (fun j => if j = 1 then some (q1.1, 1) else if j = 2 then some (q1.1, 2) else none) fun r2 =>
  if g_in 0 1 = true then g_let (g_up q1.1 192 (0 : Int32).toNatClampNeg r2) fun A3 =>
  some (A3, 0)
  else none
def mL_name (A : gM) (x1 : Int32) : Option (gM × Int32) := mL_name_b0 A x1
set_option maxHeartbeats 2000000 in
set_option maxRecDepth 20000 in
theorem wL_name_b0 (hN : 193 ≤ N) {A0 A' : gM} {r : Int32} (C : gC p (g_rmx 106 2 (6 * 2)) s m args meth c cL_name RL 4 D g (va_A (gw g ad ln A0 N) s.heap.size) 106) (CX : gCL l s c (va_A (gw g ad ln A0 N) s.heap.size) [(0, 9, 12, 13), (0, 9, 15, 15)]) (hr : meth.sig.returnType = some .int) {A : gM} {x1 : Int32} (h : mL_name_b0 A x1 = some (A', r)) : gJ p l e (g_rmx 106 2 (6 * 2)) s m args below meth c (gEL below D g N ad ln A0 A' r 2 args s) 4 D g (va_A (gw g ad ln A0 N) s.heap.size) N ad ln A [(0, gr 0), (1, gi x1), (2, gr 192)] 0 0 0 [] := by
  unfold mL_name_b0 at h
  refine g_aload_n C 2 dL_name_0 rfl ?_
  refine g_iconst (v := 0) C dL_name_1 (by decide) ?_
  refine g_aload_n C 0 dL_name_2 rfl ?_
  refine g_iload_n C 1 dL_name_3 rfl ?_
  obtain ⟨q1, eq1, h⟩ := g_bd h
  refine g_callC C CX 0 [gi x1] (kX5_name (by omega) CX.1 eq1) qs_L_17 (by omega) (by omega) rfl rfl rfl rfl (Nat.le_of_ble_eq_true rfl) ⟨Nat.le_of_ble_eq_true rfl, Nat.le_of_ble_eq_true rfl⟩ dL_name_4 (fun j hj => ?_) (fun r2 hr2 => ?_)
  · have h := g_ctx h hj
    by_cases c1 : j = 1
    · have h := g_tt c1 h
      subst c1
      obtain ⟨rfl, rfl⟩ := Prod.mk.inj (Option.some.inj h)
      refine ⟨12, qh_name_1, fun q9 => ?_⟩
      refine g_astoreX_n C dL_name_12 (by decide) rfl ?_
      refine g_iconst (v := 1) C dL_name_13 (by decide) ?_
      exact g_retL C (Nat.le_of_ble_eq_true rfl) (Nat.le_of_ble_eq_true rfl) hr dL_name_14
    have h := g_ff c1 h
    by_cases c2 : j = 2
    · have h := g_tt c2 h
      subst c2
      obtain ⟨rfl, rfl⟩ := Prod.mk.inj (Option.some.inj h)
      refine ⟨15, qh_name_2, fun q9 => ?_⟩
      refine g_astoreX_n C dL_name_15 (by decide) rfl ?_
      refine g_iconst (v := 2) C dL_name_16 (by decide) ?_
      exact g_retL C (Nat.le_of_ble_eq_true rfl) (Nat.le_of_ble_eq_true rfl) hr dL_name_17
    have h := g_ff c2 h
    cases h
  · have h := g_ctr h hr2
    refine g_i2l C dL_name_7 ?_
    obtain ⟨hg4, h⟩ := g_gd h
    obtain ⟨A3, eA3, h⟩ := g_lt h
    refine g_last C (by omega) hg4 eA3 dL_name_8 ?_
    refine g_goto C dL_name_9 (tgt := 18) (by decide) ?_
    refine g_iconst (v := 0) C dL_name_18 (by decide) ?_
    obtain ⟨rfl, rfl⟩ := Prod.mk.inj (Option.some.inj h)
    exact g_retL C (Nat.le_of_ble_eq_true rfl) (Nat.le_of_ble_eq_true rfl) hr dL_name_19

set_option maxHeartbeats 2000000 in
set_option maxRecDepth 20000 in
theorem kL_name {l : Launch} {D : va_G} {g : gT} {N : Nat} {ad ln : Nat → Nat} (hN : 193 ≤ N) (hl : l.stackTraces = false) {A A' : gM} {x1 : Int32} {r : Int32} (h : mL_name A x1 = some (A', r)) : gLi l yL_name cL_name 4 [(0, 9, 12, 13), (0, 9, 15, 15)] 106 2 D g N ad ln A [gr 0, gi x1, gr 192] A' r := by
  refine g_metL hl (by decide) (Nat.le_of_ble_eq_true rfl) ?_
  intro p e s m args below meth c C CX hr
  refine g_sub [0, 1, 2] rfl ?_
  exact wL_name_b0 hN C CX hr h
def mL_wheel_b0 (A : gM) (x1 : Int32) (x2 : Int32) : Option (gM × Int32) :=
  (mX5_wheel A x1 x2).bind fun q1 => g_ct q1 (fun j => if j = 0 then some (q1.1, 1) else if j = 1 then some (q1.1, 2) else if j = 2 then some (q1.1, 3) else none) fun r2 =>
  if g_in 0 1 = true then g_let (g_up q1.1 192 (0 : Int32).toNatClampNeg r2) fun A3 =>
  some (A3, 0)
  else none
def mL_wheel (A : gM) (x1 : Int32) (x2 : Int32) : Option (gM × Int32) := mL_wheel_b0 A x1 x2
set_option maxHeartbeats 2000000 in
set_option maxRecDepth 20000 in
theorem wL_wheel_b0 (hN : 193 ≤ N) {A0 A' : gM} {r : Int32} (C : gC p (g_rmx 106 3 (6 * 3)) s m args meth c cL_wheel RL 5 D g (va_A (gw g ad ln A0 N) s.heap.size) 106) (CX : gCL l s c (va_A (gw g ad ln A0 N) s.heap.size) [(0, 10, 13, 24), (0, 10, 17, 13), (0, 10, 21, 15)]) (hr : meth.sig.returnType = some .int) {A : gM} {x1 : Int32} {x2 : Int32} (h : mL_wheel_b0 A x1 x2 = some (A', r)) : gJ p l e (g_rmx 106 3 (6 * 3)) s m args below meth c (gEL below D g N ad ln A0 A' r 3 args s) 5 D g (va_A (gw g ad ln A0 N) s.heap.size) N ad ln A [(0, gr 0), (1, gi x1), (2, gi x2), (3, gr 192)] 0 0 0 [] := by
  unfold mL_wheel_b0 at h
  refine g_aload_n C 3 dL_wheel_0 rfl ?_
  refine g_iconst (v := 0) C dL_wheel_1 (by decide) ?_
  refine g_aload_n C 0 dL_wheel_2 rfl ?_
  refine g_iload_n C 1 dL_wheel_3 rfl ?_
  refine g_iload_n C 2 dL_wheel_4 rfl ?_
  obtain ⟨q1, eq1, h⟩ := g_bd h
  refine g_callC C CX 0 [gi x1, gi x2] (kX5_wheel (by omega) CX.1 eq1) qs_L_20 (by omega) (by omega) rfl rfl rfl rfl (Nat.le_of_ble_eq_true rfl) ⟨Nat.le_of_ble_eq_true rfl, Nat.le_of_ble_eq_true rfl⟩ dL_wheel_5 (fun j hj => ?_) (fun r2 hr2 => ?_)
  · have h := g_ctx h hj
    by_cases c0 : j = 0
    · have h := g_tt c0 h
      subst c0
      obtain ⟨rfl, rfl⟩ := Prod.mk.inj (Option.some.inj h)
      refine ⟨13, qh_wheel_0, fun q9 => ?_⟩
      refine g_astoreX C dL_wheel_13 (by decide) rfl ?_
      refine g_iconst (v := 1) C dL_wheel_15 (by decide) ?_
      exact g_retL C (Nat.le_of_ble_eq_true rfl) (Nat.le_of_ble_eq_true rfl) hr dL_wheel_16
    have h := g_ff c0 h
    by_cases c1 : j = 1
    · have h := g_tt c1 h
      subst c1
      obtain ⟨rfl, rfl⟩ := Prod.mk.inj (Option.some.inj h)
      refine ⟨17, qh_wheel_1, fun q9 => ?_⟩
      refine g_astoreX C dL_wheel_17 (by decide) rfl ?_
      refine g_iconst (v := 2) C dL_wheel_19 (by decide) ?_
      exact g_retL C (Nat.le_of_ble_eq_true rfl) (Nat.le_of_ble_eq_true rfl) hr dL_wheel_20
    have h := g_ff c1 h
    by_cases c2 : j = 2
    · have h := g_tt c2 h
      subst c2
      obtain ⟨rfl, rfl⟩ := Prod.mk.inj (Option.some.inj h)
      refine ⟨21, qh_wheel_2, fun q9 => ?_⟩
      refine g_astoreX C dL_wheel_21 (by decide) rfl ?_
      refine g_iconst (v := 3) C dL_wheel_23 (by decide) ?_
      exact g_retL C (Nat.le_of_ble_eq_true rfl) (Nat.le_of_ble_eq_true rfl) hr dL_wheel_24
    have h := g_ff c2 h
    cases h
  · have h := g_ctr h hr2
    refine g_i2l C dL_wheel_8 ?_
    obtain ⟨hg4, h⟩ := g_gd h
    obtain ⟨A3, eA3, h⟩ := g_lt h
    refine g_last C (by omega) hg4 eA3 dL_wheel_9 ?_
    refine g_goto C dL_wheel_10 (tgt := 25) (by decide) ?_
    refine g_iconst (v := 0) C dL_wheel_25 (by decide) ?_
    obtain ⟨rfl, rfl⟩ := Prod.mk.inj (Option.some.inj h)
    exact g_retL C (Nat.le_of_ble_eq_true rfl) (Nat.le_of_ble_eq_true rfl) hr dL_wheel_26

set_option maxHeartbeats 2000000 in
set_option maxRecDepth 20000 in
theorem kL_wheel {l : Launch} {D : va_G} {g : gT} {N : Nat} {ad ln : Nat → Nat} (hN : 193 ≤ N) (hl : l.stackTraces = false) {A A' : gM} {x1 : Int32} {x2 : Int32} {r : Int32} (h : mL_wheel A x1 x2 = some (A', r)) : gLi l yL_wheel cL_wheel 5 [(0, 10, 13, 24), (0, 10, 17, 13), (0, 10, 21, 15)] 106 3 D g N ad ln A [gr 0, gi x1, gi x2, gr 192] A' r := by
  refine g_metL hl (by decide) (Nat.le_of_ble_eq_true rfl) ?_
  intro p e s m args below meth c C CX hr
  refine g_sub [0, 1, 2, 3] rfl ?_
  exact wL_wheel_b0 hN C CX hr h
def mL_turn_b0 (A : gM) (x1 : Int32) (x2 : Int32) : Option (gM × Int32) :=
  (mX5_turn A x1 x2).bind fun q1 => g_ct q1 (fun j => if j = 0 then some (q1.1, 1) else if j = 2 then some (q1.1, 2) else none) fun r2 =>
  if g_in 0 1 = true then g_let (g_up q1.1 192 (0 : Int32).toNatClampNeg r2) fun A3 =>
  some (A3, 0)
  else none
def mL_turn (A : gM) (x1 : Int32) (x2 : Int32) : Option (gM × Int32) := mL_turn_b0 A x1 x2
set_option maxHeartbeats 2000000 in
set_option maxRecDepth 20000 in
theorem wL_turn_b0 (hN : 193 ≤ N) {A0 A' : gM} {r : Int32} (C : gC p (g_rmx 106 3 (6 * 3)) s m args meth c cL_turn RL 5 D g (va_A (gw g ad ln A0 N) s.heap.size) 106) (CX : gCL l s c (va_A (gw g ad ln A0 N) s.heap.size) [(0, 10, 13, 24), (0, 10, 17, 15)]) (hr : meth.sig.returnType = some .int) {A : gM} {x1 : Int32} {x2 : Int32} (h : mL_turn_b0 A x1 x2 = some (A', r)) : gJ p l e (g_rmx 106 3 (6 * 3)) s m args below meth c (gEL below D g N ad ln A0 A' r 3 args s) 5 D g (va_A (gw g ad ln A0 N) s.heap.size) N ad ln A [(0, gr 0), (1, gi x1), (2, gi x2), (3, gr 192)] 0 0 0 [] := by
  unfold mL_turn_b0 at h
  refine g_aload_n C 3 dL_turn_0 rfl ?_
  refine g_iconst (v := 0) C dL_turn_1 (by decide) ?_
  refine g_aload_n C 0 dL_turn_2 rfl ?_
  refine g_iload_n C 1 dL_turn_3 rfl ?_
  refine g_iload_n C 2 dL_turn_4 rfl ?_
  obtain ⟨q1, eq1, h⟩ := g_bd h
  refine g_callC C CX 0 [gi x1, gi x2] (kX5_turn (by omega) CX.1 eq1) qs_L_26 (by omega) (by omega) rfl rfl rfl rfl (Nat.le_of_ble_eq_true rfl) ⟨Nat.le_of_ble_eq_true rfl, Nat.le_of_ble_eq_true rfl⟩ dL_turn_5 (fun j hj => ?_) (fun r2 hr2 => ?_)
  · have h := g_ctx h hj
    by_cases c0 : j = 0
    · have h := g_tt c0 h
      subst c0
      obtain ⟨rfl, rfl⟩ := Prod.mk.inj (Option.some.inj h)
      refine ⟨13, qh_turn_0, fun q9 => ?_⟩
      refine g_astoreX C dL_turn_13 (by decide) rfl ?_
      refine g_iconst (v := 1) C dL_turn_15 (by decide) ?_
      exact g_retL C (Nat.le_of_ble_eq_true rfl) (Nat.le_of_ble_eq_true rfl) hr dL_turn_16
    have h := g_ff c0 h
    by_cases c2 : j = 2
    · have h := g_tt c2 h
      subst c2
      obtain ⟨rfl, rfl⟩ := Prod.mk.inj (Option.some.inj h)
      refine ⟨17, qh_turn_2, fun q9 => ?_⟩
      refine g_astoreX C dL_turn_17 (by decide) rfl ?_
      refine g_iconst (v := 2) C dL_turn_19 (by decide) ?_
      exact g_retL C (Nat.le_of_ble_eq_true rfl) (Nat.le_of_ble_eq_true rfl) hr dL_turn_20
    have h := g_ff c2 h
    cases h
  · have h := g_ctr h hr2
    refine g_i2l C dL_turn_8 ?_
    obtain ⟨hg4, h⟩ := g_gd h
    obtain ⟨A3, eA3, h⟩ := g_lt h
    refine g_last C (by omega) hg4 eA3 dL_turn_9 ?_
    refine g_goto C dL_turn_10 (tgt := 21) (by decide) ?_
    refine g_iconst (v := 0) C dL_turn_21 (by decide) ?_
    obtain ⟨rfl, rfl⟩ := Prod.mk.inj (Option.some.inj h)
    exact g_retL C (Nat.le_of_ble_eq_true rfl) (Nat.le_of_ble_eq_true rfl) hr dL_turn_22

set_option maxHeartbeats 2000000 in
set_option maxRecDepth 20000 in
theorem kL_turn {l : Launch} {D : va_G} {g : gT} {N : Nat} {ad ln : Nat → Nat} (hN : 193 ≤ N) (hl : l.stackTraces = false) {A A' : gM} {x1 : Int32} {x2 : Int32} {r : Int32} (h : mL_turn A x1 x2 = some (A', r)) : gLi l yL_turn cL_turn 5 [(0, 10, 13, 24), (0, 10, 17, 15)] 106 3 D g N ad ln A [gr 0, gi x1, gi x2, gr 192] A' r := by
  refine g_metL hl (by decide) (Nat.le_of_ble_eq_true rfl) ?_
  intro p e s m args below meth c C CX hr
  refine g_sub [0, 1, 2, 3] rfl ?_
  exact wL_turn_b0 hN C CX hr h
def mL_tell_b0 (A : gM) (x1 : Int32) (x2 : Int32) (x3 : Int32) : Option (gM × Int32) :=
  (mX5_tell A x1 x2 x3).bind fun q1 => g_ct q1 (fun j => if j = 0 then some (q1.1, 1) else if j = 1 then some (q1.1, 2) else if j = 2 then some (q1.1, 3) else none) fun r2 =>
  if g_in 0 1 = true then g_let (g_up q1.1 192 (0 : Int32).toNatClampNeg r2) fun A3 =>
  some (A3, 0)
  else none
def mL_tell (A : gM) (x1 : Int32) (x2 : Int32) (x3 : Int32) : Option (gM × Int32) := mL_tell_b0 A x1 x2 x3
set_option maxHeartbeats 2000000 in
set_option maxRecDepth 20000 in
theorem wL_tell_b0 (hN : 193 ≤ N) {A0 A' : gM} {r : Int32} (C : gC p (g_rmx 106 4 (6 * 4)) s m args meth c cL_tell RL 6 D g (va_A (gw g ad ln A0 N) s.heap.size) 106) (CX : gCL l s c (va_A (gw g ad ln A0 N) s.heap.size) [(0, 12, 15, 24), (0, 12, 19, 13), (0, 12, 23, 15)]) (hr : meth.sig.returnType = some .int) {A : gM} {x1 : Int32} {x2 : Int32} {x3 : Int32} (h : mL_tell_b0 A x1 x2 x3 = some (A', r)) : gJ p l e (g_rmx 106 4 (6 * 4)) s m args below meth c (gEL below D g N ad ln A0 A' r 4 args s) 6 D g (va_A (gw g ad ln A0 N) s.heap.size) N ad ln A [(0, gr 0), (1, gi x1), (2, gi x2), (3, gi x3), (4, gr 192)] 0 0 0 [] := by
  unfold mL_tell_b0 at h
  refine g_aload C 4 dL_tell_0 rfl ?_
  refine g_iconst (v := 0) C dL_tell_2 (by decide) ?_
  refine g_aload_n C 0 dL_tell_3 rfl ?_
  refine g_iload_n C 1 dL_tell_4 rfl ?_
  refine g_iload_n C 2 dL_tell_5 rfl ?_
  refine g_iload_n C 3 dL_tell_6 rfl ?_
  obtain ⟨q1, eq1, h⟩ := g_bd h
  refine g_callC C CX 0 [gi x1, gi x2, gi x3] (kX5_tell (by omega) CX.1 eq1) qs_L_29 (by omega) (by omega) rfl rfl rfl rfl (Nat.le_of_ble_eq_true rfl) ⟨Nat.le_of_ble_eq_true rfl, Nat.le_of_ble_eq_true rfl⟩ dL_tell_7 (fun j hj => ?_) (fun r2 hr2 => ?_)
  · have h := g_ctx h hj
    by_cases c0 : j = 0
    · have h := g_tt c0 h
      subst c0
      obtain ⟨rfl, rfl⟩ := Prod.mk.inj (Option.some.inj h)
      refine ⟨15, qh_tell_0, fun q9 => ?_⟩
      refine g_astoreX C dL_tell_15 (by decide) rfl ?_
      refine g_iconst (v := 1) C dL_tell_17 (by decide) ?_
      exact g_retL C (Nat.le_of_ble_eq_true rfl) (Nat.le_of_ble_eq_true rfl) hr dL_tell_18
    have h := g_ff c0 h
    by_cases c1 : j = 1
    · have h := g_tt c1 h
      subst c1
      obtain ⟨rfl, rfl⟩ := Prod.mk.inj (Option.some.inj h)
      refine ⟨19, qh_tell_1, fun q9 => ?_⟩
      refine g_astoreX C dL_tell_19 (by decide) rfl ?_
      refine g_iconst (v := 2) C dL_tell_21 (by decide) ?_
      exact g_retL C (Nat.le_of_ble_eq_true rfl) (Nat.le_of_ble_eq_true rfl) hr dL_tell_22
    have h := g_ff c1 h
    by_cases c2 : j = 2
    · have h := g_tt c2 h
      subst c2
      obtain ⟨rfl, rfl⟩ := Prod.mk.inj (Option.some.inj h)
      refine ⟨23, qh_tell_2, fun q9 => ?_⟩
      refine g_astoreX C dL_tell_23 (by decide) rfl ?_
      refine g_iconst (v := 3) C dL_tell_25 (by decide) ?_
      exact g_retL C (Nat.le_of_ble_eq_true rfl) (Nat.le_of_ble_eq_true rfl) hr dL_tell_26
    have h := g_ff c2 h
    cases h
  · have h := g_ctr h hr2
    refine g_i2l C dL_tell_10 ?_
    obtain ⟨hg4, h⟩ := g_gd h
    obtain ⟨A3, eA3, h⟩ := g_lt h
    refine g_last C (by omega) hg4 eA3 dL_tell_11 ?_
    refine g_goto C dL_tell_12 (tgt := 27) (by decide) ?_
    refine g_iconst (v := 0) C dL_tell_27 (by decide) ?_
    obtain ⟨rfl, rfl⟩ := Prod.mk.inj (Option.some.inj h)
    exact g_retL C (Nat.le_of_ble_eq_true rfl) (Nat.le_of_ble_eq_true rfl) hr dL_tell_28

set_option maxHeartbeats 2000000 in
set_option maxRecDepth 20000 in
theorem kL_tell {l : Launch} {D : va_G} {g : gT} {N : Nat} {ad ln : Nat → Nat} (hN : 193 ≤ N) (hl : l.stackTraces = false) {A A' : gM} {x1 : Int32} {x2 : Int32} {x3 : Int32} {r : Int32} (h : mL_tell A x1 x2 x3 = some (A', r)) : gLi l yL_tell cL_tell 6 [(0, 12, 15, 24), (0, 12, 19, 13), (0, 12, 23, 15)] 106 4 D g N ad ln A [gr 0, gi x1, gi x2, gi x3, gr 192] A' r := by
  refine g_metL hl (by decide) (Nat.le_of_ble_eq_true rfl) ?_
  intro p e s m args below meth c C CX hr
  refine g_sub [0, 1, 2, 3, 4] rfl ?_
  exact wL_tell_b0 hN C CX hr h
def mL_axle_b0 (A : gM) (x1 : Int32) (x2 : Int32) : Option (gM × Int32) :=
  (mX5_axle A x1 x2).bind fun q1 => g_ct q1 (fun j => if j = 0 then some (q1.1, 1) else if j = 2 then some (q1.1, 2) else none) fun r2 =>
  if g_in 0 1 = true then g_let (g_up q1.1 192 (0 : Int32).toNatClampNeg r2) fun A3 =>
  some (A3, 0)
  else none
def mL_axle (A : gM) (x1 : Int32) (x2 : Int32) : Option (gM × Int32) := mL_axle_b0 A x1 x2
set_option maxHeartbeats 2000000 in
set_option maxRecDepth 20000 in
theorem wL_axle_b0 (hN : 193 ≤ N) {A0 A' : gM} {r : Int32} (C : gC p (g_rmx 106 3 (6 * 3)) s m args meth c cL_axle RL 5 D g (va_A (gw g ad ln A0 N) s.heap.size) 106) (CX : gCL l s c (va_A (gw g ad ln A0 N) s.heap.size) [(0, 10, 13, 24), (0, 10, 17, 15)]) (hr : meth.sig.returnType = some .int) {A : gM} {x1 : Int32} {x2 : Int32} (h : mL_axle_b0 A x1 x2 = some (A', r)) : gJ p l e (g_rmx 106 3 (6 * 3)) s m args below meth c (gEL below D g N ad ln A0 A' r 3 args s) 5 D g (va_A (gw g ad ln A0 N) s.heap.size) N ad ln A [(0, gr 0), (1, gi x1), (2, gi x2), (3, gr 192)] 0 0 0 [] := by
  unfold mL_axle_b0 at h
  refine g_aload_n C 3 dL_axle_0 rfl ?_
  refine g_iconst (v := 0) C dL_axle_1 (by decide) ?_
  refine g_aload_n C 0 dL_axle_2 rfl ?_
  refine g_iload_n C 1 dL_axle_3 rfl ?_
  refine g_iload_n C 2 dL_axle_4 rfl ?_
  obtain ⟨q1, eq1, h⟩ := g_bd h
  refine g_callC C CX 0 [gi x1, gi x2] (kX5_axle (by omega) CX.1 eq1) qs_L_33 (by omega) (by omega) rfl rfl rfl rfl (Nat.le_of_ble_eq_true rfl) ⟨Nat.le_of_ble_eq_true rfl, Nat.le_of_ble_eq_true rfl⟩ dL_axle_5 (fun j hj => ?_) (fun r2 hr2 => ?_)
  · have h := g_ctx h hj
    by_cases c0 : j = 0
    · have h := g_tt c0 h
      subst c0
      obtain ⟨rfl, rfl⟩ := Prod.mk.inj (Option.some.inj h)
      refine ⟨13, qh_axle_0, fun q9 => ?_⟩
      refine g_astoreX C dL_axle_13 (by decide) rfl ?_
      refine g_iconst (v := 1) C dL_axle_15 (by decide) ?_
      exact g_retL C (Nat.le_of_ble_eq_true rfl) (Nat.le_of_ble_eq_true rfl) hr dL_axle_16
    have h := g_ff c0 h
    by_cases c2 : j = 2
    · have h := g_tt c2 h
      subst c2
      obtain ⟨rfl, rfl⟩ := Prod.mk.inj (Option.some.inj h)
      refine ⟨17, qh_axle_2, fun q9 => ?_⟩
      refine g_astoreX C dL_axle_17 (by decide) rfl ?_
      refine g_iconst (v := 2) C dL_axle_19 (by decide) ?_
      exact g_retL C (Nat.le_of_ble_eq_true rfl) (Nat.le_of_ble_eq_true rfl) hr dL_axle_20
    have h := g_ff c2 h
    cases h
  · have h := g_ctr h hr2
    refine g_i2l C dL_axle_8 ?_
    obtain ⟨hg4, h⟩ := g_gd h
    obtain ⟨A3, eA3, h⟩ := g_lt h
    refine g_last C (by omega) hg4 eA3 dL_axle_9 ?_
    refine g_goto C dL_axle_10 (tgt := 21) (by decide) ?_
    refine g_iconst (v := 0) C dL_axle_21 (by decide) ?_
    obtain ⟨rfl, rfl⟩ := Prod.mk.inj (Option.some.inj h)
    exact g_retL C (Nat.le_of_ble_eq_true rfl) (Nat.le_of_ble_eq_true rfl) hr dL_axle_22

set_option maxHeartbeats 2000000 in
set_option maxRecDepth 20000 in
theorem kL_axle {l : Launch} {D : va_G} {g : gT} {N : Nat} {ad ln : Nat → Nat} (hN : 193 ≤ N) (hl : l.stackTraces = false) {A A' : gM} {x1 : Int32} {x2 : Int32} {r : Int32} (h : mL_axle A x1 x2 = some (A', r)) : gLi l yL_axle cL_axle 5 [(0, 10, 13, 24), (0, 10, 17, 15)] 106 3 D g N ad ln A [gr 0, gi x1, gi x2, gr 192] A' r := by
  refine g_metL hl (by decide) (Nat.le_of_ble_eq_true rfl) ?_
  intro p e s m args below meth c C CX hr
  refine g_sub [0, 1, 2, 3] rfl ?_
  exact wL_axle_b0 hN C CX hr h
def mL_end_b0 (A : gM) (x1 : Int32) (x2 : Int32) : Option (gM × Int32) :=
  (mX5_end A x1 x2).bind fun q1 => g_ct q1 (fun j => if j = 0 then some (q1.1, 1) else if j = 1 then some (q1.1, 2) else if j = 2 then some (q1.1, 3) else none) fun r2 =>
  if g_in 0 1 = true then g_let (g_up q1.1 192 (0 : Int32).toNatClampNeg r2) fun A3 =>
  some (A3, 0)
  else none
def mL_end (A : gM) (x1 : Int32) (x2 : Int32) : Option (gM × Int32) := mL_end_b0 A x1 x2
set_option maxHeartbeats 2000000 in
set_option maxRecDepth 20000 in
theorem wL_end_b0 (hN : 193 ≤ N) {A0 A' : gM} {r : Int32} (C : gC p (g_rmx 106 3 (6 * 3)) s m args meth c cL_end RL 5 D g (va_A (gw g ad ln A0 N) s.heap.size) 106) (CX : gCL l s c (va_A (gw g ad ln A0 N) s.heap.size) [(0, 10, 13, 24), (0, 10, 17, 13), (0, 10, 21, 15)]) (hr : meth.sig.returnType = some .int) {A : gM} {x1 : Int32} {x2 : Int32} (h : mL_end_b0 A x1 x2 = some (A', r)) : gJ p l e (g_rmx 106 3 (6 * 3)) s m args below meth c (gEL below D g N ad ln A0 A' r 3 args s) 5 D g (va_A (gw g ad ln A0 N) s.heap.size) N ad ln A [(0, gr 0), (1, gi x1), (2, gi x2), (3, gr 192)] 0 0 0 [] := by
  unfold mL_end_b0 at h
  refine g_aload_n C 3 dL_end_0 rfl ?_
  refine g_iconst (v := 0) C dL_end_1 (by decide) ?_
  refine g_aload_n C 0 dL_end_2 rfl ?_
  refine g_iload_n C 1 dL_end_3 rfl ?_
  refine g_iload_n C 2 dL_end_4 rfl ?_
  obtain ⟨q1, eq1, h⟩ := g_bd h
  refine g_callC C CX 0 [gi x1, gi x2] (kX5_end (by omega) CX.1 eq1) qs_L_36 (by omega) (by omega) rfl rfl rfl rfl (Nat.le_of_ble_eq_true rfl) ⟨Nat.le_of_ble_eq_true rfl, Nat.le_of_ble_eq_true rfl⟩ dL_end_5 (fun j hj => ?_) (fun r2 hr2 => ?_)
  · have h := g_ctx h hj
    by_cases c0 : j = 0
    · have h := g_tt c0 h
      subst c0
      obtain ⟨rfl, rfl⟩ := Prod.mk.inj (Option.some.inj h)
      refine ⟨13, qh_end_0, fun q9 => ?_⟩
      refine g_astoreX C dL_end_13 (by decide) rfl ?_
      refine g_iconst (v := 1) C dL_end_15 (by decide) ?_
      exact g_retL C (Nat.le_of_ble_eq_true rfl) (Nat.le_of_ble_eq_true rfl) hr dL_end_16
    have h := g_ff c0 h
    by_cases c1 : j = 1
    · have h := g_tt c1 h
      subst c1
      obtain ⟨rfl, rfl⟩ := Prod.mk.inj (Option.some.inj h)
      refine ⟨17, qh_end_1, fun q9 => ?_⟩
      refine g_astoreX C dL_end_17 (by decide) rfl ?_
      refine g_iconst (v := 2) C dL_end_19 (by decide) ?_
      exact g_retL C (Nat.le_of_ble_eq_true rfl) (Nat.le_of_ble_eq_true rfl) hr dL_end_20
    have h := g_ff c1 h
    by_cases c2 : j = 2
    · have h := g_tt c2 h
      subst c2
      obtain ⟨rfl, rfl⟩ := Prod.mk.inj (Option.some.inj h)
      refine ⟨21, qh_end_2, fun q9 => ?_⟩
      refine g_astoreX C dL_end_21 (by decide) rfl ?_
      refine g_iconst (v := 3) C dL_end_23 (by decide) ?_
      exact g_retL C (Nat.le_of_ble_eq_true rfl) (Nat.le_of_ble_eq_true rfl) hr dL_end_24
    have h := g_ff c2 h
    cases h
  · have h := g_ctr h hr2
    refine g_i2l C dL_end_8 ?_
    obtain ⟨hg4, h⟩ := g_gd h
    obtain ⟨A3, eA3, h⟩ := g_lt h
    refine g_last C (by omega) hg4 eA3 dL_end_9 ?_
    refine g_goto C dL_end_10 (tgt := 25) (by decide) ?_
    refine g_iconst (v := 0) C dL_end_25 (by decide) ?_
    obtain ⟨rfl, rfl⟩ := Prod.mk.inj (Option.some.inj h)
    exact g_retL C (Nat.le_of_ble_eq_true rfl) (Nat.le_of_ble_eq_true rfl) hr dL_end_26

set_option maxHeartbeats 2000000 in
set_option maxRecDepth 20000 in
theorem kL_end {l : Launch} {D : va_G} {g : gT} {N : Nat} {ad ln : Nat → Nat} (hN : 193 ≤ N) (hl : l.stackTraces = false) {A A' : gM} {x1 : Int32} {x2 : Int32} {r : Int32} (h : mL_end A x1 x2 = some (A', r)) : gLi l yL_end cL_end 5 [(0, 10, 13, 24), (0, 10, 17, 13), (0, 10, 21, 15)] 106 3 D g N ad ln A [gr 0, gi x1, gi x2, gr 192] A' r := by
  refine g_metL hl (by decide) (Nat.le_of_ble_eq_true rfl) ?_
  intro p e s m args below meth c C CX hr
  refine g_sub [0, 1, 2, 3] rfl ?_
  exact wL_end_b0 hN C CX hr h
def mL_either_b0 (A : gM) (x1 : Int32) (x2 : Int32) (x3 : Int32) : Option (gM × Int32) :=
  (mX5_either A x1 x2 x3).bind fun q1 => g_ct q1 (fun j => if j = 0 then some (q1.1, 1) else if j = 2 then some (q1.1, 2) else none) fun r2 =>
  if g_in 0 1 = true then g_let (g_up q1.1 192 (0 : Int32).toNatClampNeg r2) fun A3 =>
  some (A3, 0)
  else none
def mL_either (A : gM) (x1 : Int32) (x2 : Int32) (x3 : Int32) : Option (gM × Int32) := mL_either_b0 A x1 x2 x3
set_option maxHeartbeats 2000000 in
set_option maxRecDepth 20000 in
theorem wL_either_b0 (hN : 193 ≤ N) {A0 A' : gM} {r : Int32} (C : gC p (g_rmx 106 4 (6 * 4)) s m args meth c cL_either RL 6 D g (va_A (gw g ad ln A0 N) s.heap.size) 106) (CX : gCL l s c (va_A (gw g ad ln A0 N) s.heap.size) [(0, 12, 15, 24), (0, 12, 19, 15)]) (hr : meth.sig.returnType = some .int) {A : gM} {x1 : Int32} {x2 : Int32} {x3 : Int32} (h : mL_either_b0 A x1 x2 x3 = some (A', r)) : gJ p l e (g_rmx 106 4 (6 * 4)) s m args below meth c (gEL below D g N ad ln A0 A' r 4 args s) 6 D g (va_A (gw g ad ln A0 N) s.heap.size) N ad ln A [(0, gr 0), (1, gi x1), (2, gi x2), (3, gi x3), (4, gr 192)] 0 0 0 [] := by
  unfold mL_either_b0 at h
  refine g_aload C 4 dL_either_0 rfl ?_
  refine g_iconst (v := 0) C dL_either_2 (by decide) ?_
  refine g_aload_n C 0 dL_either_3 rfl ?_
  refine g_iload_n C 1 dL_either_4 rfl ?_
  refine g_iload_n C 2 dL_either_5 rfl ?_
  refine g_iload_n C 3 dL_either_6 rfl ?_
  obtain ⟨q1, eq1, h⟩ := g_bd h
  refine g_callC C CX 0 [gi x1, gi x2, gi x3] (kX5_either (by omega) CX.1 eq1) qs_L_39 (by omega) (by omega) rfl rfl rfl rfl (Nat.le_of_ble_eq_true rfl) ⟨Nat.le_of_ble_eq_true rfl, Nat.le_of_ble_eq_true rfl⟩ dL_either_7 (fun j hj => ?_) (fun r2 hr2 => ?_)
  · have h := g_ctx h hj
    by_cases c0 : j = 0
    · have h := g_tt c0 h
      subst c0
      obtain ⟨rfl, rfl⟩ := Prod.mk.inj (Option.some.inj h)
      refine ⟨15, qh_either_0, fun q9 => ?_⟩
      refine g_astoreX C dL_either_15 (by decide) rfl ?_
      refine g_iconst (v := 1) C dL_either_17 (by decide) ?_
      exact g_retL C (Nat.le_of_ble_eq_true rfl) (Nat.le_of_ble_eq_true rfl) hr dL_either_18
    have h := g_ff c0 h
    by_cases c2 : j = 2
    · have h := g_tt c2 h
      subst c2
      obtain ⟨rfl, rfl⟩ := Prod.mk.inj (Option.some.inj h)
      refine ⟨19, qh_either_2, fun q9 => ?_⟩
      refine g_astoreX C dL_either_19 (by decide) rfl ?_
      refine g_iconst (v := 2) C dL_either_21 (by decide) ?_
      exact g_retL C (Nat.le_of_ble_eq_true rfl) (Nat.le_of_ble_eq_true rfl) hr dL_either_22
    have h := g_ff c2 h
    cases h
  · have h := g_ctr h hr2
    refine g_i2l C dL_either_10 ?_
    obtain ⟨hg4, h⟩ := g_gd h
    obtain ⟨A3, eA3, h⟩ := g_lt h
    refine g_last C (by omega) hg4 eA3 dL_either_11 ?_
    refine g_goto C dL_either_12 (tgt := 23) (by decide) ?_
    refine g_iconst (v := 0) C dL_either_23 (by decide) ?_
    obtain ⟨rfl, rfl⟩ := Prod.mk.inj (Option.some.inj h)
    exact g_retL C (Nat.le_of_ble_eq_true rfl) (Nat.le_of_ble_eq_true rfl) hr dL_either_24

set_option maxHeartbeats 2000000 in
set_option maxRecDepth 20000 in
theorem kL_either {l : Launch} {D : va_G} {g : gT} {N : Nat} {ad ln : Nat → Nat} (hN : 193 ≤ N) (hl : l.stackTraces = false) {A A' : gM} {x1 : Int32} {x2 : Int32} {x3 : Int32} {r : Int32} (h : mL_either A x1 x2 x3 = some (A', r)) : gLi l yL_either cL_either 6 [(0, 12, 15, 24), (0, 12, 19, 15)] 106 4 D g N ad ln A [gr 0, gi x1, gi x2, gi x3, gr 192] A' r := by
  refine g_metL hl (by decide) (Nat.le_of_ble_eq_true rfl) ?_
  intro p e s m args below meth c C CX hr
  refine g_sub [0, 1, 2, 3, 4] rfl ?_
  exact wL_either_b0 hN C CX hr h
def mL_undo_b0 (A : gM) : Option (gM × Int32) :=
  (mX5_undo A).bind fun q1 => g_ct q1 (fun j => if j = 2 then some (q1.1, 1) else none) fun r2 =>
  if g_in 0 1 = true then g_let (g_up q1.1 192 (0 : Int32).toNatClampNeg r2) fun A3 =>
  some (A3, 0)
  else none
def mL_undo (A : gM) : Option (gM × Int32) := mL_undo_b0 A
set_option maxHeartbeats 2000000 in
set_option maxRecDepth 20000 in
theorem wL_undo_b0 (hN : 193 ≤ N) {A0 A' : gM} {r : Int32} (C : gC p (g_rmx 7 1 (6 * 1)) s m args meth c cL_undo RL 3 D g (va_A (gw g ad ln A0 N) s.heap.size) 7) (CX : gCL l s c (va_A (gw g ad ln A0 N) s.heap.size) [(0, 8, 11, 15)]) (hr : meth.sig.returnType = some .int) {A : gM} (h : mL_undo_b0 A = some (A', r)) : gJ p l e (g_rmx 7 1 (6 * 1)) s m args below meth c (gEL below D g N ad ln A0 A' r 1 args s) 3 D g (va_A (gw g ad ln A0 N) s.heap.size) N ad ln A [(0, gr 0), (1, gr 192)] 0 0 0 [] := by
  unfold mL_undo_b0 at h
  refine g_aload_n C 1 dL_undo_0 rfl ?_
  refine g_iconst (v := 0) C dL_undo_1 (by decide) ?_
  refine g_aload_n C 0 dL_undo_2 rfl ?_
  obtain ⟨q1, eq1, h⟩ := g_bd h
  refine g_callC C CX 0 [] (kX5_undo (by omega) CX.1 eq1) qs_L_42 (by omega) (by omega) rfl rfl rfl rfl (Nat.le_of_ble_eq_true rfl) ⟨Nat.le_of_ble_eq_true rfl, Nat.le_of_ble_eq_true rfl⟩ dL_undo_3 (fun j hj => ?_) (fun r2 hr2 => ?_)
  · have h := g_ctx h hj
    by_cases c2 : j = 2
    · have h := g_tt c2 h
      subst c2
      obtain ⟨rfl, rfl⟩ := Prod.mk.inj (Option.some.inj h)
      refine ⟨11, qh_undo_2, fun q9 => ?_⟩
      refine g_astoreX_n C dL_undo_11 (by decide) rfl ?_
      refine g_iconst (v := 1) C dL_undo_12 (by decide) ?_
      exact g_retL C (Nat.le_of_ble_eq_true rfl) (Nat.le_of_ble_eq_true rfl) hr dL_undo_13
    have h := g_ff c2 h
    cases h
  · have h := g_ctr h hr2
    refine g_i2l C dL_undo_6 ?_
    obtain ⟨hg4, h⟩ := g_gd h
    obtain ⟨A3, eA3, h⟩ := g_lt h
    refine g_last C (by omega) hg4 eA3 dL_undo_7 ?_
    refine g_goto C dL_undo_8 (tgt := 14) (by decide) ?_
    refine g_iconst (v := 0) C dL_undo_14 (by decide) ?_
    obtain ⟨rfl, rfl⟩ := Prod.mk.inj (Option.some.inj h)
    exact g_retL C (Nat.le_of_ble_eq_true rfl) (Nat.le_of_ble_eq_true rfl) hr dL_undo_15

set_option maxHeartbeats 2000000 in
set_option maxRecDepth 20000 in
theorem kL_undo {l : Launch} {D : va_G} {g : gT} {N : Nat} {ad ln : Nat → Nat} (hN : 193 ≤ N) (hl : l.stackTraces = false) {A A' : gM} {r : Int32} (h : mL_undo A = some (A', r)) : gLi l yL_undo cL_undo 3 [(0, 8, 11, 15)] 7 1 D g N ad ln A [gr 0, gr 192] A' r := by
  refine g_metL hl (by decide) (Nat.le_of_ble_eq_true rfl) ?_
  intro p e s m args below meth c C CX hr
  refine g_sub [0, 1] rfl ?_
  exact wL_undo_b0 hN C CX hr h
def mL_part_b0 (A : gM) (x1 : Int32) (x2 : Int32) : Option (gM × Int32) :=
  (mX5_part A x1 x2).bind fun q1 => g_ct q1 (fun j => if j = 0 then some (q1.1, 1) else none) fun r2 =>
  if g_in 0 1 = true then g_let (g_up q1.1 192 (0 : Int32).toNatClampNeg r2) fun A3 =>
  some (A3, 0)
  else none
def mL_part (A : gM) (x1 : Int32) (x2 : Int32) : Option (gM × Int32) := mL_part_b0 A x1 x2
set_option maxHeartbeats 2000000 in
set_option maxRecDepth 20000 in
theorem wL_part_b0 (hN : 193 ≤ N) {A0 A' : gM} {r : Int32} (C : gC p (g_rmx 9 2 (6 * 2)) s m args meth c cL_part RL 5 D g (va_A (gw g ad ln A0 N) s.heap.size) 9) (CX : gCL l s c (va_A (gw g ad ln A0 N) s.heap.size) [(0, 10, 13, 24)]) (hr : meth.sig.returnType = some .int) {A : gM} {x1 : Int32} {x2 : Int32} (h : mL_part_b0 A x1 x2 = some (A', r)) : gJ p l e (g_rmx 9 2 (6 * 2)) s m args below meth c (gEL below D g N ad ln A0 A' r 2 args s) 5 D g (va_A (gw g ad ln A0 N) s.heap.size) N ad ln A [(0, gr 0), (1, gi x1), (2, gi x2), (3, gr 192)] 0 0 0 [] := by
  unfold mL_part_b0 at h
  refine g_aload_n C 3 dL_part_0 rfl ?_
  refine g_iconst (v := 0) C dL_part_1 (by decide) ?_
  refine g_aload_n C 0 dL_part_2 rfl ?_
  refine g_iload_n C 1 dL_part_3 rfl ?_
  refine g_iload_n C 2 dL_part_4 rfl ?_
  obtain ⟨q1, eq1, h⟩ := g_bd h
  refine g_callC C CX 0 [gi x1, gi x2] (kX5_part (by omega) CX.1 eq1) qs_L_46 (by omega) (by omega) rfl rfl rfl rfl (Nat.le_of_ble_eq_true rfl) ⟨Nat.le_of_ble_eq_true rfl, Nat.le_of_ble_eq_true rfl⟩ dL_part_5 (fun j hj => ?_) (fun r2 hr2 => ?_)
  · have h := g_ctx h hj
    by_cases c0 : j = 0
    · have h := g_tt c0 h
      subst c0
      obtain ⟨rfl, rfl⟩ := Prod.mk.inj (Option.some.inj h)
      refine ⟨13, qh_part_0, fun q9 => ?_⟩
      refine g_astoreX C dL_part_13 (by decide) rfl ?_
      refine g_iconst (v := 1) C dL_part_15 (by decide) ?_
      exact g_retL C (Nat.le_of_ble_eq_true rfl) (Nat.le_of_ble_eq_true rfl) hr dL_part_16
    have h := g_ff c0 h
    cases h
  · have h := g_ctr h hr2
    refine g_i2l C dL_part_8 ?_
    obtain ⟨hg4, h⟩ := g_gd h
    obtain ⟨A3, eA3, h⟩ := g_lt h
    refine g_last C (by omega) hg4 eA3 dL_part_9 ?_
    refine g_goto C dL_part_10 (tgt := 17) (by decide) ?_
    refine g_iconst (v := 0) C dL_part_17 (by decide) ?_
    obtain ⟨rfl, rfl⟩ := Prod.mk.inj (Option.some.inj h)
    exact g_retL C (Nat.le_of_ble_eq_true rfl) (Nat.le_of_ble_eq_true rfl) hr dL_part_18

set_option maxHeartbeats 2000000 in
set_option maxRecDepth 20000 in
theorem kL_part {l : Launch} {D : va_G} {g : gT} {N : Nat} {ad ln : Nat → Nat} (hN : 193 ≤ N) (hl : l.stackTraces = false) {A A' : gM} {x1 : Int32} {x2 : Int32} {r : Int32} (h : mL_part A x1 x2 = some (A', r)) : gLi l yL_part cL_part 5 [(0, 10, 13, 24)] 9 2 D g N ad ln A [gr 0, gi x1, gi x2, gr 192] A' r := by
  refine g_metL hl (by decide) (Nat.le_of_ble_eq_true rfl) ?_
  intro p e s m args below meth c C CX hr
  refine g_sub [0, 1, 2, 3] rfl ?_
  exact wL_part_b0 hN C CX hr h
def mL_type_b0 (A : gM) (x1 : Int32) (x2 : Int32) : Option (gM × Int32) :=
  (mX5_type A x1 x2).bind fun q1 => g_ct q1 (fun j => if j = 0 then some (q1.1, 1) else none) fun r2 =>
  if g_in 0 1 = true then g_let (g_up q1.1 192 (0 : Int32).toNatClampNeg r2) fun A3 =>
  some (A3, 0)
  else none
def mL_type (A : gM) (x1 : Int32) (x2 : Int32) : Option (gM × Int32) := mL_type_b0 A x1 x2
set_option maxHeartbeats 2000000 in
set_option maxRecDepth 20000 in
theorem wL_type_b0 (hN : 193 ≤ N) {A0 A' : gM} {r : Int32} (C : gC p (g_rmx 9 2 (6 * 2)) s m args meth c cL_type RL 5 D g (va_A (gw g ad ln A0 N) s.heap.size) 9) (CX : gCL l s c (va_A (gw g ad ln A0 N) s.heap.size) [(0, 10, 13, 24)]) (hr : meth.sig.returnType = some .int) {A : gM} {x1 : Int32} {x2 : Int32} (h : mL_type_b0 A x1 x2 = some (A', r)) : gJ p l e (g_rmx 9 2 (6 * 2)) s m args below meth c (gEL below D g N ad ln A0 A' r 2 args s) 5 D g (va_A (gw g ad ln A0 N) s.heap.size) N ad ln A [(0, gr 0), (1, gi x1), (2, gi x2), (3, gr 192)] 0 0 0 [] := by
  unfold mL_type_b0 at h
  refine g_aload_n C 3 dL_type_0 rfl ?_
  refine g_iconst (v := 0) C dL_type_1 (by decide) ?_
  refine g_aload_n C 0 dL_type_2 rfl ?_
  refine g_iload_n C 1 dL_type_3 rfl ?_
  refine g_iload_n C 2 dL_type_4 rfl ?_
  obtain ⟨q1, eq1, h⟩ := g_bd h
  refine g_callC C CX 0 [gi x1, gi x2] (kX5_type (by omega) CX.1 eq1) qs_L_49 (by omega) (by omega) rfl rfl rfl rfl (Nat.le_of_ble_eq_true rfl) ⟨Nat.le_of_ble_eq_true rfl, Nat.le_of_ble_eq_true rfl⟩ dL_type_5 (fun j hj => ?_) (fun r2 hr2 => ?_)
  · have h := g_ctx h hj
    by_cases c0 : j = 0
    · have h := g_tt c0 h
      subst c0
      obtain ⟨rfl, rfl⟩ := Prod.mk.inj (Option.some.inj h)
      refine ⟨13, qh_type_0, fun q9 => ?_⟩
      refine g_astoreX C dL_type_13 (by decide) rfl ?_
      refine g_iconst (v := 1) C dL_type_15 (by decide) ?_
      exact g_retL C (Nat.le_of_ble_eq_true rfl) (Nat.le_of_ble_eq_true rfl) hr dL_type_16
    have h := g_ff c0 h
    cases h
  · have h := g_ctr h hr2
    refine g_i2l C dL_type_8 ?_
    obtain ⟨hg4, h⟩ := g_gd h
    obtain ⟨A3, eA3, h⟩ := g_lt h
    refine g_last C (by omega) hg4 eA3 dL_type_9 ?_
    refine g_goto C dL_type_10 (tgt := 17) (by decide) ?_
    refine g_iconst (v := 0) C dL_type_17 (by decide) ?_
    obtain ⟨rfl, rfl⟩ := Prod.mk.inj (Option.some.inj h)
    exact g_retL C (Nat.le_of_ble_eq_true rfl) (Nat.le_of_ble_eq_true rfl) hr dL_type_18

set_option maxHeartbeats 2000000 in
set_option maxRecDepth 20000 in
theorem kL_type {l : Launch} {D : va_G} {g : gT} {N : Nat} {ad ln : Nat → Nat} (hN : 193 ≤ N) (hl : l.stackTraces = false) {A A' : gM} {x1 : Int32} {x2 : Int32} {r : Int32} (h : mL_type A x1 x2 = some (A', r)) : gLi l yL_type cL_type 5 [(0, 10, 13, 24)] 9 2 D g N ad ln A [gr 0, gi x1, gi x2, gr 192] A' r := by
  refine g_metL hl (by decide) (Nat.le_of_ble_eq_true rfl) ?_
  intro p e s m args below meth c C CX hr
  refine g_sub [0, 1, 2, 3] rfl ?_
  exact wL_type_b0 hN C CX hr h
def mL_code_b0 (A : gM) (x1 : Int32) (x2 : Int32) : Option (gM × Int32) :=
  (mX5_code A x1 x2).bind fun q1 => g_ct q1 (fun j => if j = 0 then some (q1.1, 1) else none) fun r2 =>
  if g_in 0 1 = true then g_let (g_up q1.1 192 (0 : Int32).toNatClampNeg r2) fun A3 =>
  some (A3, 0)
  else none
def mL_code (A : gM) (x1 : Int32) (x2 : Int32) : Option (gM × Int32) := mL_code_b0 A x1 x2
set_option maxHeartbeats 2000000 in
set_option maxRecDepth 20000 in
theorem wL_code_b0 (hN : 193 ≤ N) {A0 A' : gM} {r : Int32} (C : gC p (g_rmx 9 2 (6 * 2)) s m args meth c cL_code RL 5 D g (va_A (gw g ad ln A0 N) s.heap.size) 9) (CX : gCL l s c (va_A (gw g ad ln A0 N) s.heap.size) [(0, 10, 13, 24)]) (hr : meth.sig.returnType = some .int) {A : gM} {x1 : Int32} {x2 : Int32} (h : mL_code_b0 A x1 x2 = some (A', r)) : gJ p l e (g_rmx 9 2 (6 * 2)) s m args below meth c (gEL below D g N ad ln A0 A' r 2 args s) 5 D g (va_A (gw g ad ln A0 N) s.heap.size) N ad ln A [(0, gr 0), (1, gi x1), (2, gi x2), (3, gr 192)] 0 0 0 [] := by
  unfold mL_code_b0 at h
  refine g_aload_n C 3 dL_code_0 rfl ?_
  refine g_iconst (v := 0) C dL_code_1 (by decide) ?_
  refine g_aload_n C 0 dL_code_2 rfl ?_
  refine g_iload_n C 1 dL_code_3 rfl ?_
  refine g_iload_n C 2 dL_code_4 rfl ?_
  obtain ⟨q1, eq1, h⟩ := g_bd h
  refine g_callC C CX 0 [gi x1, gi x2] (kX5_code (by omega) CX.1 eq1) qs_L_52 (by omega) (by omega) rfl rfl rfl rfl (Nat.le_of_ble_eq_true rfl) ⟨Nat.le_of_ble_eq_true rfl, Nat.le_of_ble_eq_true rfl⟩ dL_code_5 (fun j hj => ?_) (fun r2 hr2 => ?_)
  · have h := g_ctx h hj
    by_cases c0 : j = 0
    · have h := g_tt c0 h
      subst c0
      obtain ⟨rfl, rfl⟩ := Prod.mk.inj (Option.some.inj h)
      refine ⟨13, qh_code_0, fun q9 => ?_⟩
      refine g_astoreX C dL_code_13 (by decide) rfl ?_
      refine g_iconst (v := 1) C dL_code_15 (by decide) ?_
      exact g_retL C (Nat.le_of_ble_eq_true rfl) (Nat.le_of_ble_eq_true rfl) hr dL_code_16
    have h := g_ff c0 h
    cases h
  · have h := g_ctr h hr2
    refine g_i2l C dL_code_8 ?_
    obtain ⟨hg4, h⟩ := g_gd h
    obtain ⟨A3, eA3, h⟩ := g_lt h
    refine g_last C (by omega) hg4 eA3 dL_code_9 ?_
    refine g_goto C dL_code_10 (tgt := 17) (by decide) ?_
    refine g_iconst (v := 0) C dL_code_17 (by decide) ?_
    obtain ⟨rfl, rfl⟩ := Prod.mk.inj (Option.some.inj h)
    exact g_retL C (Nat.le_of_ble_eq_true rfl) (Nat.le_of_ble_eq_true rfl) hr dL_code_18

set_option maxHeartbeats 2000000 in
set_option maxRecDepth 20000 in
theorem kL_code {l : Launch} {D : va_G} {g : gT} {N : Nat} {ad ln : Nat → Nat} (hN : 193 ≤ N) (hl : l.stackTraces = false) {A A' : gM} {x1 : Int32} {x2 : Int32} {r : Int32} (h : mL_code A x1 x2 = some (A', r)) : gLi l yL_code cL_code 5 [(0, 10, 13, 24)] 9 2 D g N ad ln A [gr 0, gi x1, gi x2, gr 192] A' r := by
  refine g_metL hl (by decide) (Nat.le_of_ble_eq_true rfl) ?_
  intro p e s m args below meth c C CX hr
  refine g_sub [0, 1, 2, 3] rfl ?_
  exact wL_code_b0 hN C CX hr h
def mL_count_b0 (A : gM) (x1 : Int32) : Option (gM × Int32) :=
  (mX5_count A x1).bind fun q1 => g_ct q1 (fun j => if j = 0 then some (q1.1, 1) else none) fun r2 =>
  if g_in 0 1 = true then g_let (g_up q1.1 192 (0 : Int32).toNatClampNeg r2) fun A3 =>
  some (A3, 0)
  else none
def mL_count (A : gM) (x1 : Int32) : Option (gM × Int32) := mL_count_b0 A x1
set_option maxHeartbeats 2000000 in
set_option maxRecDepth 20000 in
theorem wL_count_b0 (hN : 193 ≤ N) {A0 A' : gM} {r : Int32} (C : gC p (g_rmx 8 1 (6 * 1)) s m args meth c cL_count RL 4 D g (va_A (gw g ad ln A0 N) s.heap.size) 8) (CX : gCL l s c (va_A (gw g ad ln A0 N) s.heap.size) [(0, 9, 12, 24)]) (hr : meth.sig.returnType = some .int) {A : gM} {x1 : Int32} (h : mL_count_b0 A x1 = some (A', r)) : gJ p l e (g_rmx 8 1 (6 * 1)) s m args below meth c (gEL below D g N ad ln A0 A' r 1 args s) 4 D g (va_A (gw g ad ln A0 N) s.heap.size) N ad ln A [(0, gr 0), (1, gi x1), (2, gr 192)] 0 0 0 [] := by
  unfold mL_count_b0 at h
  refine g_aload_n C 2 dL_count_0 rfl ?_
  refine g_iconst (v := 0) C dL_count_1 (by decide) ?_
  refine g_aload_n C 0 dL_count_2 rfl ?_
  refine g_iload_n C 1 dL_count_3 rfl ?_
  obtain ⟨q1, eq1, h⟩ := g_bd h
  refine g_callC C CX 0 [gi x1] (kX5_count (by omega) CX.1 eq1) qs_L_55 (by omega) (by omega) rfl rfl rfl rfl (Nat.le_of_ble_eq_true rfl) ⟨Nat.le_of_ble_eq_true rfl, Nat.le_of_ble_eq_true rfl⟩ dL_count_4 (fun j hj => ?_) (fun r2 hr2 => ?_)
  · have h := g_ctx h hj
    by_cases c0 : j = 0
    · have h := g_tt c0 h
      subst c0
      obtain ⟨rfl, rfl⟩ := Prod.mk.inj (Option.some.inj h)
      refine ⟨12, qh_count_0, fun q9 => ?_⟩
      refine g_astoreX_n C dL_count_12 (by decide) rfl ?_
      refine g_iconst (v := 1) C dL_count_13 (by decide) ?_
      exact g_retL C (Nat.le_of_ble_eq_true rfl) (Nat.le_of_ble_eq_true rfl) hr dL_count_14
    have h := g_ff c0 h
    cases h
  · have h := g_ctr h hr2
    refine g_i2l C dL_count_7 ?_
    obtain ⟨hg4, h⟩ := g_gd h
    obtain ⟨A3, eA3, h⟩ := g_lt h
    refine g_last C (by omega) hg4 eA3 dL_count_8 ?_
    refine g_goto C dL_count_9 (tgt := 15) (by decide) ?_
    refine g_iconst (v := 0) C dL_count_15 (by decide) ?_
    obtain ⟨rfl, rfl⟩ := Prod.mk.inj (Option.some.inj h)
    exact g_retL C (Nat.le_of_ble_eq_true rfl) (Nat.le_of_ble_eq_true rfl) hr dL_count_16

set_option maxHeartbeats 2000000 in
set_option maxRecDepth 20000 in
theorem kL_count {l : Launch} {D : va_G} {g : gT} {N : Nat} {ad ln : Nat → Nat} (hN : 193 ≤ N) (hl : l.stackTraces = false) {A A' : gM} {x1 : Int32} {r : Int32} (h : mL_count A x1 = some (A', r)) : gLi l yL_count cL_count 4 [(0, 9, 12, 24)] 8 1 D g N ad ln A [gr 0, gi x1, gr 192] A' r := by
  refine g_metL hl (by decide) (Nat.le_of_ble_eq_true rfl) ?_
  intro p e s m args below meth c C CX hr
  refine g_sub [0, 1, 2] rfl ?_
  exact wL_count_b0 hN C CX hr h
def mL_same_b16 (A : gM) (s1 : Int32) (s2 : Int64) : Option (gM × Int32) :=
  if g_in s1 1 = true ∧ s2.toInt32.toInt64 = s2 then g_let (g_up A 192 s1.toNatClampNeg s2.toInt32) fun A1 =>
  some (A1, 0)
  else none
def mL_same_b0 (A : gM) (x1 : Int32) (x2 : Int32) : Option (gM × Int32) :=
  (mX5_same A x1 x2).bind fun q1 => g_ct q1 (fun j => if j = 0 then some (q1.1, 1) else none) fun r2 =>
  if r2 = 0 then
  mL_same_b16 q1.1 0 0
  else
  mL_same_b16 q1.1 0 1
def mL_same (A : gM) (x1 : Int32) (x2 : Int32) : Option (gM × Int32) := mL_same_b0 A x1 x2
set_option maxHeartbeats 2000000 in
set_option maxRecDepth 20000 in
theorem wL_same_b16 (hN : 193 ≤ N) {A0 A' : gM} {r : Int32} (C : gC p (g_rmx 9 2 (6 * 2)) s m args meth c cL_same RL 5 D g (va_A (gw g ad ln A0 N) s.heap.size) 9) (CX : gCL l s c (va_A (gw g ad ln A0 N) s.heap.size) [(0, 17, 20, 24)]) (hr : meth.sig.returnType = some .int) {A : gM} {s1 : Int32} {s2 : Int64} (h : mL_same_b16 A s1 s2 = some (A', r)) : gJ p l e (g_rmx 9 2 (6 * 2)) s m args below meth c (gEL below D g N ad ln A0 A' r 2 args s) 5 D g (va_A (gw g ad ln A0 N) s.heap.size) N ad ln A [] 2 12 16 [gl s2, gi s1, gr 192] := by
  unfold mL_same_b16 at h
  obtain ⟨hg2, h⟩ := g_gd h
  obtain ⟨A1, eA1, h⟩ := g_lt h
  refine g_topl hg2.2.symm ?_
  refine g_last C (by omega) hg2.1 eA1 dL_same_16 ?_
  refine g_goto C dL_same_17 (tgt := 24) (by decide) ?_
  refine g_iconst (v := 0) C dL_same_24 (by decide) ?_
  obtain ⟨rfl, rfl⟩ := Prod.mk.inj (Option.some.inj h)
  exact g_retL C (Nat.le_of_ble_eq_true rfl) (Nat.le_of_ble_eq_true rfl) hr dL_same_25

set_option maxHeartbeats 2000000 in
set_option maxRecDepth 20000 in
theorem wL_same_b0 (hN : 193 ≤ N) {A0 A' : gM} {r : Int32} (C : gC p (g_rmx 9 2 (6 * 2)) s m args meth c cL_same RL 5 D g (va_A (gw g ad ln A0 N) s.heap.size) 9) (CX : gCL l s c (va_A (gw g ad ln A0 N) s.heap.size) [(0, 17, 20, 24)]) (hr : meth.sig.returnType = some .int) {A : gM} {x1 : Int32} {x2 : Int32} (h : mL_same_b0 A x1 x2 = some (A', r)) : gJ p l e (g_rmx 9 2 (6 * 2)) s m args below meth c (gEL below D g N ad ln A0 A' r 2 args s) 5 D g (va_A (gw g ad ln A0 N) s.heap.size) N ad ln A [(0, gr 0), (1, gi x1), (2, gi x2), (3, gr 192)] 0 0 0 [] := by
  unfold mL_same_b0 at h
  refine g_aload_n C 3 dL_same_0 rfl ?_
  refine g_iconst (v := 0) C dL_same_1 (by decide) ?_
  refine g_aload_n C 0 dL_same_2 rfl ?_
  refine g_iload_n C 1 dL_same_3 rfl ?_
  refine g_iload_n C 2 dL_same_4 rfl ?_
  obtain ⟨q1, eq1, h⟩ := g_bd h
  refine g_callC C CX 0 [gi x1, gi x2] (kX5_same (by omega) CX.1 eq1) qs_L_58 (by omega) (by omega) rfl rfl rfl rfl (Nat.le_of_ble_eq_true rfl) ⟨Nat.le_of_ble_eq_true rfl, Nat.le_of_ble_eq_true rfl⟩ dL_same_5 (fun j hj => ?_) (fun r2 hr2 => ?_)
  · have h := g_ctx h hj
    by_cases c0 : j = 0
    · have h := g_tt c0 h
      subst c0
      obtain ⟨rfl, rfl⟩ := Prod.mk.inj (Option.some.inj h)
      refine ⟨20, qh_same_0, fun q9 => ?_⟩
      refine g_astoreX C dL_same_20 (by decide) rfl ?_
      refine g_iconst (v := 1) C dL_same_22 (by decide) ?_
      exact g_retL C (Nat.le_of_ble_eq_true rfl) (Nat.le_of_ble_eq_true rfl) hr dL_same_23
    have h := g_ff c0 h
    cases h
  · have h := g_ctr h hr2
    refine g_if_eq C dL_same_8 (tgt := 15) (by decide) (fun c3 => ?_) (fun c3 => ?_)
    · have h := g_tt c3 h
      refine g_lconst (v := 0) C dL_same_15 (by decide) ?_
      refine g_sub [] rfl ?_
      refine g_widen (k2 := 2) (n2 := 12) (Nat.le_of_ble_eq_true rfl) (Nat.le_of_ble_eq_true rfl) ?_
      exact wL_same_b16 hN C CX hr h
    · have h := g_ff c3 h
      refine g_lconst (v := 1) C dL_same_11 (by decide) ?_
      refine g_goto C dL_same_12 (tgt := 16) (by decide) ?_
      refine g_sub [] rfl ?_
      refine g_widen (k2 := 2) (n2 := 12) (Nat.le_of_ble_eq_true rfl) (Nat.le_of_ble_eq_true rfl) ?_
      exact wL_same_b16 hN C CX hr h

set_option maxHeartbeats 2000000 in
set_option maxRecDepth 20000 in
theorem kL_same {l : Launch} {D : va_G} {g : gT} {N : Nat} {ad ln : Nat → Nat} (hN : 193 ≤ N) (hl : l.stackTraces = false) {A A' : gM} {x1 : Int32} {x2 : Int32} {r : Int32} (h : mL_same A x1 x2 = some (A', r)) : gLi l yL_same cL_same 5 [(0, 17, 20, 24)] 9 2 D g N ad ln A [gr 0, gi x1, gi x2, gr 192] A' r := by
  refine g_metL hl (by decide) (Nat.le_of_ble_eq_true rfl) ?_
  intro p e s m args below meth c C CX hr
  refine g_sub [0, 1, 2, 3] rfl ?_
  exact wL_same_b0 hN C CX hr h
def mL_fits_b16 (A : gM) (s1 : Int32) (s2 : Int64) : Option (gM × Int32) :=
  if g_in s1 1 = true ∧ s2.toInt32.toInt64 = s2 then g_let (g_up A 192 s1.toNatClampNeg s2.toInt32) fun A1 =>
  some (A1, 0)
  else none
def mL_fits_b0 (A : gM) (x1 : Int32) (x2 : Int32) : Option (gM × Int32) :=
  (mX5_fits A x1 x2).bind fun q1 => g_ct q1 (fun j => if j = 0 then some (q1.1, 1) else none) fun r2 =>
  if r2 = 0 then
  mL_fits_b16 q1.1 0 0
  else
  mL_fits_b16 q1.1 0 1
def mL_fits (A : gM) (x1 : Int32) (x2 : Int32) : Option (gM × Int32) := mL_fits_b0 A x1 x2
set_option maxHeartbeats 2000000 in
set_option maxRecDepth 20000 in
theorem wL_fits_b16 (hN : 193 ≤ N) {A0 A' : gM} {r : Int32} (C : gC p (g_rmx 9 2 (6 * 2)) s m args meth c cL_fits RL 5 D g (va_A (gw g ad ln A0 N) s.heap.size) 9) (CX : gCL l s c (va_A (gw g ad ln A0 N) s.heap.size) [(0, 17, 20, 24)]) (hr : meth.sig.returnType = some .int) {A : gM} {s1 : Int32} {s2 : Int64} (h : mL_fits_b16 A s1 s2 = some (A', r)) : gJ p l e (g_rmx 9 2 (6 * 2)) s m args below meth c (gEL below D g N ad ln A0 A' r 2 args s) 5 D g (va_A (gw g ad ln A0 N) s.heap.size) N ad ln A [] 2 12 16 [gl s2, gi s1, gr 192] := by
  unfold mL_fits_b16 at h
  obtain ⟨hg2, h⟩ := g_gd h
  obtain ⟨A1, eA1, h⟩ := g_lt h
  refine g_topl hg2.2.symm ?_
  refine g_last C (by omega) hg2.1 eA1 dL_fits_16 ?_
  refine g_goto C dL_fits_17 (tgt := 24) (by decide) ?_
  refine g_iconst (v := 0) C dL_fits_24 (by decide) ?_
  obtain ⟨rfl, rfl⟩ := Prod.mk.inj (Option.some.inj h)
  exact g_retL C (Nat.le_of_ble_eq_true rfl) (Nat.le_of_ble_eq_true rfl) hr dL_fits_25

set_option maxHeartbeats 2000000 in
set_option maxRecDepth 20000 in
theorem wL_fits_b0 (hN : 193 ≤ N) {A0 A' : gM} {r : Int32} (C : gC p (g_rmx 9 2 (6 * 2)) s m args meth c cL_fits RL 5 D g (va_A (gw g ad ln A0 N) s.heap.size) 9) (CX : gCL l s c (va_A (gw g ad ln A0 N) s.heap.size) [(0, 17, 20, 24)]) (hr : meth.sig.returnType = some .int) {A : gM} {x1 : Int32} {x2 : Int32} (h : mL_fits_b0 A x1 x2 = some (A', r)) : gJ p l e (g_rmx 9 2 (6 * 2)) s m args below meth c (gEL below D g N ad ln A0 A' r 2 args s) 5 D g (va_A (gw g ad ln A0 N) s.heap.size) N ad ln A [(0, gr 0), (1, gi x1), (2, gi x2), (3, gr 192)] 0 0 0 [] := by
  unfold mL_fits_b0 at h
  refine g_aload_n C 3 dL_fits_0 rfl ?_
  refine g_iconst (v := 0) C dL_fits_1 (by decide) ?_
  refine g_aload_n C 0 dL_fits_2 rfl ?_
  refine g_iload_n C 1 dL_fits_3 rfl ?_
  refine g_iload_n C 2 dL_fits_4 rfl ?_
  obtain ⟨q1, eq1, h⟩ := g_bd h
  refine g_callC C CX 0 [gi x1, gi x2] (kX5_fits (by omega) CX.1 eq1) qs_L_62 (by omega) (by omega) rfl rfl rfl rfl (Nat.le_of_ble_eq_true rfl) ⟨Nat.le_of_ble_eq_true rfl, Nat.le_of_ble_eq_true rfl⟩ dL_fits_5 (fun j hj => ?_) (fun r2 hr2 => ?_)
  · have h := g_ctx h hj
    by_cases c0 : j = 0
    · have h := g_tt c0 h
      subst c0
      obtain ⟨rfl, rfl⟩ := Prod.mk.inj (Option.some.inj h)
      refine ⟨20, qh_fits_0, fun q9 => ?_⟩
      refine g_astoreX C dL_fits_20 (by decide) rfl ?_
      refine g_iconst (v := 1) C dL_fits_22 (by decide) ?_
      exact g_retL C (Nat.le_of_ble_eq_true rfl) (Nat.le_of_ble_eq_true rfl) hr dL_fits_23
    have h := g_ff c0 h
    cases h
  · have h := g_ctr h hr2
    refine g_if_eq C dL_fits_8 (tgt := 15) (by decide) (fun c3 => ?_) (fun c3 => ?_)
    · have h := g_tt c3 h
      refine g_lconst (v := 0) C dL_fits_15 (by decide) ?_
      refine g_sub [] rfl ?_
      refine g_widen (k2 := 2) (n2 := 12) (Nat.le_of_ble_eq_true rfl) (Nat.le_of_ble_eq_true rfl) ?_
      exact wL_fits_b16 hN C CX hr h
    · have h := g_ff c3 h
      refine g_lconst (v := 1) C dL_fits_11 (by decide) ?_
      refine g_goto C dL_fits_12 (tgt := 16) (by decide) ?_
      refine g_sub [] rfl ?_
      refine g_widen (k2 := 2) (n2 := 12) (Nat.le_of_ble_eq_true rfl) (Nat.le_of_ble_eq_true rfl) ?_
      exact wL_fits_b16 hN C CX hr h

set_option maxHeartbeats 2000000 in
set_option maxRecDepth 20000 in
theorem kL_fits {l : Launch} {D : va_G} {g : gT} {N : Nat} {ad ln : Nat → Nat} (hN : 193 ≤ N) (hl : l.stackTraces = false) {A A' : gM} {x1 : Int32} {x2 : Int32} {r : Int32} (h : mL_fits A x1 x2 = some (A', r)) : gLi l yL_fits cL_fits 5 [(0, 17, 20, 24)] 9 2 D g N ad ln A [gr 0, gi x1, gi x2, gr 192] A' r := by
  refine g_metL hl (by decide) (Nat.le_of_ble_eq_true rfl) ?_
  intro p e s m args below meth c C CX hr
  refine g_sub [0, 1, 2, 3] rfl ?_
  exact wL_fits_b0 hN C CX hr h
def mL_goes_b0 (A : gM) (x1 : Int32) (x2 : Int32) : Option (gM × Int32) :=
  (mX5_goes A x1 x2).bind fun q1 => g_ct q1 (fun j => if j = 0 then some (q1.1, 1) else none) fun r2 =>
  if g_in 0 1 = true then g_let (g_up q1.1 192 (0 : Int32).toNatClampNeg r2) fun A3 =>
  some (A3, 0)
  else none
def mL_goes (A : gM) (x1 : Int32) (x2 : Int32) : Option (gM × Int32) := mL_goes_b0 A x1 x2
set_option maxHeartbeats 2000000 in
set_option maxRecDepth 20000 in
theorem wL_goes_b0 (hN : 193 ≤ N) {A0 A' : gM} {r : Int32} (C : gC p (g_rmx 9 2 (6 * 2)) s m args meth c cL_goes RL 5 D g (va_A (gw g ad ln A0 N) s.heap.size) 9) (CX : gCL l s c (va_A (gw g ad ln A0 N) s.heap.size) [(0, 10, 13, 24)]) (hr : meth.sig.returnType = some .int) {A : gM} {x1 : Int32} {x2 : Int32} (h : mL_goes_b0 A x1 x2 = some (A', r)) : gJ p l e (g_rmx 9 2 (6 * 2)) s m args below meth c (gEL below D g N ad ln A0 A' r 2 args s) 5 D g (va_A (gw g ad ln A0 N) s.heap.size) N ad ln A [(0, gr 0), (1, gi x1), (2, gi x2), (3, gr 192)] 0 0 0 [] := by
  unfold mL_goes_b0 at h
  refine g_aload_n C 3 dL_goes_0 rfl ?_
  refine g_iconst (v := 0) C dL_goes_1 (by decide) ?_
  refine g_aload_n C 0 dL_goes_2 rfl ?_
  refine g_iload_n C 1 dL_goes_3 rfl ?_
  refine g_iload_n C 2 dL_goes_4 rfl ?_
  obtain ⟨q1, eq1, h⟩ := g_bd h
  refine g_callC C CX 0 [gi x1, gi x2] (kX5_goes (by omega) CX.1 eq1) qs_L_65 (by omega) (by omega) rfl rfl rfl rfl (Nat.le_of_ble_eq_true rfl) ⟨Nat.le_of_ble_eq_true rfl, Nat.le_of_ble_eq_true rfl⟩ dL_goes_5 (fun j hj => ?_) (fun r2 hr2 => ?_)
  · have h := g_ctx h hj
    by_cases c0 : j = 0
    · have h := g_tt c0 h
      subst c0
      obtain ⟨rfl, rfl⟩ := Prod.mk.inj (Option.some.inj h)
      refine ⟨13, qh_goes_0, fun q9 => ?_⟩
      refine g_astoreX C dL_goes_13 (by decide) rfl ?_
      refine g_iconst (v := 1) C dL_goes_15 (by decide) ?_
      exact g_retL C (Nat.le_of_ble_eq_true rfl) (Nat.le_of_ble_eq_true rfl) hr dL_goes_16
    have h := g_ff c0 h
    cases h
  · have h := g_ctr h hr2
    refine g_i2l C dL_goes_8 ?_
    obtain ⟨hg4, h⟩ := g_gd h
    obtain ⟨A3, eA3, h⟩ := g_lt h
    refine g_last C (by omega) hg4 eA3 dL_goes_9 ?_
    refine g_goto C dL_goes_10 (tgt := 17) (by decide) ?_
    refine g_iconst (v := 0) C dL_goes_17 (by decide) ?_
    obtain ⟨rfl, rfl⟩ := Prod.mk.inj (Option.some.inj h)
    exact g_retL C (Nat.le_of_ble_eq_true rfl) (Nat.le_of_ble_eq_true rfl) hr dL_goes_18

set_option maxHeartbeats 2000000 in
set_option maxRecDepth 20000 in
theorem kL_goes {l : Launch} {D : va_G} {g : gT} {N : Nat} {ad ln : Nat → Nat} (hN : 193 ≤ N) (hl : l.stackTraces = false) {A A' : gM} {x1 : Int32} {x2 : Int32} {r : Int32} (h : mL_goes A x1 x2 = some (A', r)) : gLi l yL_goes cL_goes 5 [(0, 10, 13, 24)] 9 2 D g N ad ln A [gr 0, gi x1, gi x2, gr 192] A' r := by
  refine g_metL hl (by decide) (Nat.le_of_ble_eq_true rfl) ?_
  intro p e s m args below meth c C CX hr
  refine g_sub [0, 1, 2, 3] rfl ?_
  exact wL_goes_b0 hN C CX hr h
def mL_first_b0 (A : gM) (x1 : Int32) : Option (gM × Int32) :=
  (mX5_first A x1).bind fun q1 => g_ct q1 (fun j => if j = 0 then some (q1.1, 1) else none) fun r2 =>
  if g_in 0 1 = true then g_let (g_up q1.1 192 (0 : Int32).toNatClampNeg r2) fun A3 =>
  some (A3, 0)
  else none
def mL_first (A : gM) (x1 : Int32) : Option (gM × Int32) := mL_first_b0 A x1
set_option maxHeartbeats 2000000 in
set_option maxRecDepth 20000 in
theorem wL_first_b0 (hN : 193 ≤ N) {A0 A' : gM} {r : Int32} (C : gC p (g_rmx 9 1 (6 * 1)) s m args meth c cL_first RL 4 D g (va_A (gw g ad ln A0 N) s.heap.size) 9) (CX : gCL l s c (va_A (gw g ad ln A0 N) s.heap.size) [(0, 9, 12, 24)]) (hr : meth.sig.returnType = some .int) {A : gM} {x1 : Int32} (h : mL_first_b0 A x1 = some (A', r)) : gJ p l e (g_rmx 9 1 (6 * 1)) s m args below meth c (gEL below D g N ad ln A0 A' r 1 args s) 4 D g (va_A (gw g ad ln A0 N) s.heap.size) N ad ln A [(0, gr 0), (1, gi x1), (2, gr 192)] 0 0 0 [] := by
  unfold mL_first_b0 at h
  refine g_aload_n C 2 dL_first_0 rfl ?_
  refine g_iconst (v := 0) C dL_first_1 (by decide) ?_
  refine g_aload_n C 0 dL_first_2 rfl ?_
  refine g_iload_n C 1 dL_first_3 rfl ?_
  obtain ⟨q1, eq1, h⟩ := g_bd h
  refine g_callC C CX 0 [gi x1] (kX5_first (by omega) CX.1 eq1) qs_L_68 (by omega) (by omega) rfl rfl rfl rfl (Nat.le_of_ble_eq_true rfl) ⟨Nat.le_of_ble_eq_true rfl, Nat.le_of_ble_eq_true rfl⟩ dL_first_4 (fun j hj => ?_) (fun r2 hr2 => ?_)
  · have h := g_ctx h hj
    by_cases c0 : j = 0
    · have h := g_tt c0 h
      subst c0
      obtain ⟨rfl, rfl⟩ := Prod.mk.inj (Option.some.inj h)
      refine ⟨12, qh_first_0, fun q9 => ?_⟩
      refine g_astoreX_n C dL_first_12 (by decide) rfl ?_
      refine g_iconst (v := 1) C dL_first_13 (by decide) ?_
      exact g_retL C (Nat.le_of_ble_eq_true rfl) (Nat.le_of_ble_eq_true rfl) hr dL_first_14
    have h := g_ff c0 h
    cases h
  · have h := g_ctr h hr2
    refine g_i2l C dL_first_7 ?_
    obtain ⟨hg4, h⟩ := g_gd h
    obtain ⟨A3, eA3, h⟩ := g_lt h
    refine g_last C (by omega) hg4 eA3 dL_first_8 ?_
    refine g_goto C dL_first_9 (tgt := 15) (by decide) ?_
    refine g_iconst (v := 0) C dL_first_15 (by decide) ?_
    obtain ⟨rfl, rfl⟩ := Prod.mk.inj (Option.some.inj h)
    exact g_retL C (Nat.le_of_ble_eq_true rfl) (Nat.le_of_ble_eq_true rfl) hr dL_first_16

set_option maxHeartbeats 2000000 in
set_option maxRecDepth 20000 in
theorem kL_first {l : Launch} {D : va_G} {g : gT} {N : Nat} {ad ln : Nat → Nat} (hN : 193 ≤ N) (hl : l.stackTraces = false) {A A' : gM} {x1 : Int32} {r : Int32} (h : mL_first A x1 = some (A', r)) : gLi l yL_first cL_first 4 [(0, 9, 12, 24)] 9 1 D g N ad ln A [gr 0, gi x1, gr 192] A' r := by
  refine g_metL hl (by decide) (Nat.le_of_ble_eq_true rfl) ?_
  intro p e s m args below meth c C CX hr
  refine g_sub [0, 1, 2] rfl ?_
  exact wL_first_b0 hN C CX hr h
end LW
