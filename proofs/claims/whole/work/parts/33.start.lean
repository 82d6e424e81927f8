theorem qs_cl5 : Cond.classLink RL 8 RX5 ∈ gtb := g_tb (List.mem_of_getElem? (i := 88) (by decide +kernel)) (by decide +kernel)
theorem qs_cl6 : Cond.classLink RL 72 RX6 ∈ gtb := g_tb (List.mem_of_getElem? (i := 733) (by decide +kernel)) (by decide +kernel)
theorem qs_ml5 : Cond.methodLink RL 71 yX5_init ∈ gtb := g_tb (List.mem_of_getElem? (i := 90) (by decide +kernel)) (by decide +kernel)
theorem qs_ml6 : Cond.methodLink RL 74 yX6_init ∈ gtb := g_tb (List.mem_of_getElem? (i := 735) (by decide +kernel)) (by decide +kernel)
theorem qa_long : Cond.arrayClass .long ∈ gtb := g_tb (List.mem_of_getElem? (i := 1038) (by decide +kernel)) (by decide +kernel)
theorem dL_law_0 : decode cL_law 0 = .ok (.new 8, 3) := by decide +kernel
theorem dL_law_3 : decode cL_law 3 = .ok (.dup, 1) := by decide +kernel
theorem dL_law_4 : decode cL_law 4 = .ok (.invokespecial 71, 3) := by decide +kernel
theorem dL_law_7 : decode cL_law 7 = .ok (.astore_n 1, 1) := by decide +kernel
theorem dL_law_8 : decode cL_law 8 = .ok (.new 72, 3) := by decide +kernel
theorem dL_law_11 : decode cL_law 11 = .ok (.dup, 1) := by decide +kernel
theorem dL_law_12 : decode cL_law 12 = .ok (.invokespecial 74, 3) := by decide +kernel
theorem dL_law_15 : decode cL_law 15 = .ok (.astore_n 2, 1) := by decide +kernel
theorem dL_law_16 : decode cL_law 16 = .ok (.iconst 1, 1) := by decide +kernel
theorem dL_law_17 : decode cL_law 17 = .ok (.newarray .long, 2) := by decide +kernel
theorem dL_law_19 : decode cL_law 19 = .ok (.astore_n 3, 1) := by decide +kernel
theorem dL_law_20 : decode cL_law 20 = .ok (.iconst 0, 1) := by decide +kernel
theorem dL_law_21 : decode cL_law 21 = .ok (.istore 4, 2) := by decide +kernel
theorem g_ce_sl2 {g : gT} {ad ad' : Nat → Nat} {lo hi x : Nat} {f : Nat → Int32} {i : Nat} (hs : lo = 0 ∧ hi = 183 ∨ lo = 183 ∧ hi = 192) (h : ∀ j, lo ≤ j → j < hi → ad j = ad' j) (h1 : lo ≤ i) (h2 : i < hi) : g_ce g ad x f i = g_ce g ad' x f i := by
  unfold g_ce
  by_cases c129 : i = 129
  · rw [if_pos c129, if_pos c129, h 130 (by omega) (by omega), h 131 (by omega) (by omega), h 132 (by omega) (by omega), h 133 (by omega) (by omega), h 134 (by omega) (by omega), h 135 (by omega) (by omega), h 136 (by omega) (by omega), h 137 (by omega) (by omega)]
  rw [if_neg c129, if_neg c129]
  by_cases c183 : i = 183
  · rw [if_pos c183, if_pos c183, h 184 (by omega) (by omega), h 185 (by omega) (by omega), h 186 (by omega) (by omega), h 187 (by omega) (by omega), h 188 (by omega) (by omega), h 189 (by omega) (by omega), h 190 (by omega) (by omega), h 191 (by omega) (by omega)]
  rw [if_neg c183, if_neg c183]
  by_cases c188 : i = 188
  · first | omega | rw [if_pos c188, if_pos c188]
  rw [if_neg c188, if_neg c188]
  by_cases c192 : i = 192
  · first | omega | rw [if_pos c192, if_pos c192]
  rw [if_neg c192, if_neg c192]
  by_cases c0 : i = 0
  · rw [if_pos c0, if_pos c0, h 1 (by omega) (by omega), h 43 (by omega) (by omega), h 128 (by omega) (by omega)]
  rw [if_neg c0, if_neg c0]
  by_cases c1 : i = 1
  · rw [if_pos c1, if_pos c1, h 2 (by omega) (by omega)]
  rw [if_neg c1, if_neg c1]
  by_cases c43 : i = 43
  · rw [if_pos c43, if_pos c43, h 44 (by omega) (by omega), h 85 (by omega) (by omega), h 126 (by omega) (by omega), h 127 (by omega) (by omega)]
  rw [if_neg c43, if_neg c43]
  by_cases c128 : i = 128
  · rw [if_pos c128, if_pos c128, h 129 (by omega) (by omega), h 138 (by omega) (by omega), h 182 (by omega) (by omega)]
  rw [if_neg c128, if_neg c128]
  by_cases c138 : i = 138
  · rw [if_pos c138, if_pos c138, h 139 (by omega) (by omega), h 140 (by omega) (by omega), h 181 (by omega) (by omega)]
  rw [if_neg c138, if_neg c138]
  by_cases c2 : i = 2
  · rw [if_pos c2, if_pos c2, g_out_sl (b := 3) h (by omega) (by omega)]
  rw [if_neg c2, if_neg c2]
  by_cases c44 : i = 44
  · rw [if_pos c44, if_pos c44, g_out_sl (b := 45) h (by omega) (by omega)]
  rw [if_neg c44, if_neg c44]
  by_cases c85 : i = 85
  · rw [if_pos c85, if_pos c85, g_out_sl (b := 86) h (by omega) (by omega)]
  rw [if_neg c85, if_neg c85]
  by_cases c140 : i = 140
  · rw [if_pos c140, if_pos c140, g_out_sl (b := 141) h (by omega) (by omega)]
  rw [if_neg c140, if_neg c140]
theorem g_AOA_spec {u : State} (h : va_AOA .int u) : ∃ comp c k, u.vm.classes[c]? = some k ∧ k.kind = .array comp (.array .int) ∧ u.vm.findClass ("[" ++ (FieldType.array .int).toString) = some c := by
  simp only [va_AOA, Cond.before, Cond.holds, Cond.value, beq_iff_eq] at h
  cases hc : u.vm.findClass (FieldType.array .int).toString with
  | none => simp [hc] at h
  | some comp =>
    simp only [hc, Option.bind_some, Option.bind_eq_some_iff, Option.map_eq_some_iff] at h
    obtain ⟨c, hi, k, hk, hb⟩ := h
    obtain ⟨hlt, hp, -⟩ := Array.findIdx?_eq_some_iff_getElem.mp hi
    have hkk : u.vm.classes[c] = k := (Array.getElem?_eq_some_iff.mp hk).2
    rw [hkk] at hp
    cases hkind : k.kind with
    | array component ty =>
      rw [hkind] at hb hp
      simp at hb hp
      exact ⟨comp, c, k, hk, by rw [hkind, hp, hb.1], hb.2⟩
    | _ => rw [hkind] at hb; simp at hb
theorem g_gxw_in : ∀ w ∈ gxw, w ∈ lw_tbl := by decide +kernel
theorem g_gnw_in : ∀ w ∈ gnw, w ∈ lw_tbl := by decide +kernel
theorem gw_gsl {g : gT} {ad : Nat → Nat} {n : Nat} : gw g ad (fun _ => 500) (fun _ _ => 0) n = gsl g ad 0 n := by
  unfold gw gsl
  apply List.map_congr_left
  intro j _
  rw [Nat.zero_add]
theorem gsl_cg2 {g : gT} {ad ad' : Nat → Nat} {lo n hi : Nat} (hs : lo = 0 ∧ hi = 183 ∨ lo = 183 ∧ hi = 192) (hh : lo + n = hi) (h : ∀ i, lo ≤ i → i < hi → ad i = ad' i) : gsl g ad lo n = gsl g ad' lo n := by
  unfold gsl
  apply List.map_congr_left
  intro j hj
  have hj := List.mem_range.mp hj
  rw [h (lo + j) (by omega) (by omega), g_ce_sl2 hs h (by omega) (by omega)]
set_option maxHeartbeats 4000000 in
set_option maxRecDepth 100000 in
/-- THE LAW, from its entry, out of its model -/
theorem whole_start_of {p : Program} {e : Env} {s : State} {m : MethodId} {below : List Frame} {meth : Method} {c : Code} (l : Launch) (hflags : l.flags = flags0) {b L : Nat} {xs : Nat → Int32} (C0 : lw_At p s m meth c b L xs) (hm : mL_law_L23 xs L gF 500 193 34696 (fun _ _ => 0) 0 = some ()) : W p l e room_1 s m #[Value.ref b] below meth c s.heap [] 0 0 (lw_Z below #[Value.ref b] s) (entryFrame m ([Value.ref b] : List Value).toArray 9) := by
  obtain ⟨hx, hb, hr, hml, hown, hts0, hX, hbl, hlocks, hgv⟩ := id C0
  have hts : ∀ w ∈ gtb, w.before #[Value.ref b] s = true := fun w hw => hts0 w (List.mem_filter.mp hw).1
  obtain ⟨As, hAs⟩ : ∃ As : Nat → Prop, As = fun q : Nat => s.heap.size ≤ q := ⟨_, rfl⟩
  have hA : ∀ q : Nat, s.heap.size ≤ q → As q := fun q h => by rw [hAs]; exact h
  have hgs := flat_of_before _ hgv
  have hst : l.stackTraces = false := by
    first | (rw [show l.stackTraces = Launch.stackTraces l from rfl]; unfold Launch.stackTraces; rw [hflags]; decide +kernel) | (simp [Launch.stackTraces, hflags]; done) | (simp [Launch.stackTraces, hflags, flags0])
  have hXs : gX s := fun w hw => va_Nw.of (gX_tab w hw) (hts0 w (g_gxw_in w hw))
  have hAO : va_AOA .int s := (hts0 (.arrayOver (.array .int)) (List.mem_of_getElem? (i := 103) (by decide +kernel)) : (Cond.arrayOver (.array .int)).before #[Value.ref b] s = true)
  have hNW : gNW s := ⟨fun w hw => va_Nw.of (gnw_tab w hw) (hts0 w (g_gnw_in w hw)), hAO⟩
  have hNC : gNC s := by
    intro i j hi hj hne
    have h10 : va_Nc (g_xn 1) (g_xn 0) s := va_Nc.of (hgs (.not (.castable (g_xn 1) (g_xn 0))) (by decide +kernel))
    have h20 : va_Nc (g_xn 2) (g_xn 0) s := va_Nc.of (hgs (.not (.castable (g_xn 2) (g_xn 0))) (by decide +kernel))
    have h01 : va_Nc (g_xn 0) (g_xn 1) s := va_Nc.of (hgs (.not (.castable (g_xn 0) (g_xn 1))) (by decide +kernel))
    have h21 : va_Nc (g_xn 2) (g_xn 1) s := va_Nc.of (hgs (.not (.castable (g_xn 2) (g_xn 1))) (by decide +kernel))
    have h02 : va_Nc (g_xn 0) (g_xn 2) s := va_Nc.of (hgs (.not (.castable (g_xn 0) (g_xn 2))) (by decide +kernel))
    have h12 : va_Nc (g_xn 1) (g_xn 2) s := va_Nc.of (hgs (.not (.castable (g_xn 1) (g_xn 2))) (by decide +kernel))
    rcases (show i = 0 ∨ i = 1 ∨ i = 2 by omega) with rfl | rfl | rfl <;> rcases (show j = 0 ∨ j = 1 ∨ j = 2 by omega) with rfl | rfl | rfl <;> first | assumption | exact absurd rfl hne
  have hnA : ∀ a : Nat, a < s.heap.size → ¬ As a := fun a h => by rw [hAs]; exact Nat.not_le.mpr h
  have hZ : gZ As s s.heap := ⟨vx_Zqof (hts0 _ (List.mem_of_getElem? (i := 298) (by decide +kernel))) (hts0 _ (List.mem_of_getElem? (i := 80) (by decide +kernel))) (hgs _ (by decide +kernel)) hnA, vx_Zqof (hts0 _ (List.mem_of_getElem? (i := 300) (by decide +kernel))) (hts0 _ (List.mem_of_getElem? (i := 80) (by decide +kernel))) (hgs _ (by decide +kernel)) hnA⟩
  obtain ⟨cI, kI, pI, fI, hkI, hdI⟩ := Cond.arrayClass_spec (hts _ qa_int)
  obtain ⟨cZ, kZ, pZ, fZ, hkZ, hdZ⟩ := Cond.arrayClass_spec (hts _ qa_boolean)
  obtain ⟨cJ, kJ, pJ, fJ, hkJ, hdJ⟩ := Cond.arrayClass_spec (hts _ qa_long)
  obtain ⟨pO, cO, kO, hkO, hdO, fO⟩ := g_AOA_spec hAO

  obtain ⟨c0, i0, hKn0⟩ := u_known (C := RX0) (T := TX0) (N := 5) hts gu_0 (hts _ qi_mk_0)
  obtain ⟨c1, i1, hKn1⟩ := u_known (C := RX1) (T := TX1) (N := 4) hts gu_1 (hts _ qi_mk_1)
  obtain ⟨c2, i2, hKn2⟩ := u_known (C := RX2) (T := TX2) (N := 2) hts gu_2 (hts _ qi_mk_2)
  obtain ⟨c3, i3, hKn3⟩ := u_known (C := RX3) (T := TX3) (N := 4) hts gu_3 (hts _ qi_mk_3)
  obtain ⟨c4, i4, hKn4⟩ := u_known (C := RX4) (T := TX4) (N := 11) hts gu_4 (hts _ qi_mk_4)
  obtain ⟨c5, i5, hKn5⟩ := u_known (C := RX5) (T := TX5) (N := 3) hts gu_5 (hts _ qi_mk_5)
  obtain ⟨c6, i6, hKn6⟩ := u_known (C := RX6) (T := TX6) (N := 14) hts gu_6 (hts _ qi_mk_6)
  obtain ⟨D, hKc⟩ : ∃ (D : va_G), ∀ (k : Nat) (q : vw_C), vwCl[k]? = some q → u_Kn s q.1 q.2.1 q.2.2 (D.1 k) (D.2 k) := by
    refine ⟨(fun k => if k = 0 then c0 else if k = 1 then c1 else if k = 2 then c2 else if k = 3 then c3 else if k = 4 then c4 else if k = 5 then c5 else c6, fun k => if k = 0 then i0 else if k = 1 then i1 else if k = 2 then i2 else if k = 3 then i3 else if k = 4 then i4 else if k = 5 then i5 else i6), ?_⟩
    intro k q hq
    match k, hq with
    | 0, hq => cases hq; exact hKn0
    | 1, hq => cases hq; exact hKn1
    | 2, hq => cases hq; exact hKn2
    | 3, hq => cases hq; exact hKn3
    | 4, hq => cases hq; exact hKn4
    | 5, hq => cases hq; exact hKn5
    | 6, hq => cases hq; exact hKn6
    | k + 7, hq => simp [vwCl] at hq
  obtain ⟨g, hg⟩ : ∃ g : gT, g = (cI, cZ, cJ, cO) := ⟨_, rfl⟩
  have hK : va_K D vwCl (g_tys g) s := by
    refine ⟨hKc, fun k q h => ?_⟩
    rw [hg] at h
    match k, h with
    | 0, h => cases h; exact ⟨fun n z => ⟨(fun k h => by cases h), kI, hkI, pI, hdI⟩, fI⟩
    | 1, h => cases h; exact ⟨fun n z => ⟨(fun k h => by cases h), kZ, hkZ, pZ, hdZ⟩, fZ⟩
    | 2, h => cases h; exact ⟨fun n z => ⟨(fun k h => by cases h), kJ, hkJ, pJ, hdJ⟩, fJ⟩
    | 3, h => cases h; exact ⟨fun n z => ⟨(fun k h => by cases h), kO, hkO, pO, hdO⟩, fO⟩
    | k + 4, h => simp [g_tys] at h
  have hS : va_S As s.heap s.heap [] := va_S.rf
  have hP : va_P D vwCl [] s.heap := fun k q h => by simp at h
  have hD : va_D As [] := ⟨fun i j p q h => by simp at h, fun k q h => by simp at h⟩
  have hl := lv_entry ([.ref b]) (n := 9) (Nat.le_of_ble_eq_true rfl)
  rw [lg_entry_eq]
  generalize (lg_sl ([.ref b]) ++ List.replicate (9 - (lg_sl ([.ref b])).length) Slot.unset).toArray = ls at hl ⊢
  have hl : lv_has ls 9 [(0, .ref b)] := hl
  refine va_new (ci := 5) (fs := [.null, .null, .null]) (C := RX5) (T := TX5) (N := 3) hx hb hts gu_5 tyX5 tyX5_ok hown (hts _ qs_cl5) (hts _ qi_mk_5) (hts _ qi_ini_5) hK hP hD hS hA rfl (fun j hj => by rcases (show j = 0 ∨ j = 1 ∨ j = 2 by omega) with rfl | rfl | rfl <;> rfl) (Nat.le_of_ble_eq_true rfl) (Nat.le_of_ble_eq_true rfl) dL_law_0 (fun q0 H hP hD hS => ?_)
  refine lv_dup hx hb dL_law_3 rfl ?_
  have hP : va_P D vwCl (([]) ++ [(q0, .inr (5, [.null, .null, .null]))]) H := hP
  have hD : va_D As (([]) ++ [(q0, .inr (5, [.null, .null, .null]))]) := hD
  have hPc : va_P D vwCl [(q0, .inr (5, [.null, .null, .null]))] H := fun k z hz => hP (([] : va_W).length + k) z (by rw [List.getElem?_append_right (Nat.le_add_right _ _), Nat.add_sub_cancel_left]; exact hz)
  have hDc : va_D (fun _ => True) [(q0, (.inr (5, [.null, .null, .null]) : va_E))] := ⟨fun i j p z h1 h2 _ => by have a1 := (List.getElem?_eq_some_iff.mp h1).1; have a2 := (List.getElem?_eq_some_iff.mp h2).1; simp at a1 a2; omega, fun _ _ _ => trivial⟩
  have hFc : ∀ z, va_A [(q0, .inr (5, [.null, .null, .null]))] H.size z → As z := fun z hz => by
    rcases hz with ⟨k, e2, h⟩ | h
    · exact hD.2 (([] : va_W).length + k) (z, e2) (by rw [List.getElem?_append_right (Nat.le_add_right _ _), Nat.add_sub_cancel_left]; exact h)
    · exact hA z (Nat.le_trans hS.1 h)
  refine va_callv (va_runI (b := q0) (As := []) (rest := [.ref q0]) ⟨hx, hb, hml, hown, hts⟩ (kX5_init q0 H.size) (cwI 0 hts (g_inL qi_code_5) rfl rfl rfl (hts _ qi_ini_5) (hts _ qs_ml5) (hts _ qi_im_5) rfl ⟨by decide, by decide, by decide +kernel⟩ ⟨Nat.le_of_ble_eq_true rfl, Nat.le_of_ble_eq_true rfl⟩) ⟨g_blindC, fun U hU hW => ⟨rfl, by rw [hU], by rw [hU]; exact hPc, va_K.moved hW.alike hK, hDc, hNW.warm hW⟩⟩ rfl rfl hl.1 rfl (Nat.le_of_ble_eq_true rfl) dL_law_4 ⟨Nat.le_of_ble_eq_true rfl, Nat.le_of_ble_eq_true rfl⟩) hS (fun z _ h => hFc z h) hFc (fun ad1 t H1 locs1 ht hvm hwad1 hB hz1 hk1 hS => ?_)
  obtain ⟨hP1, hK1, hD1⟩ := hB
  rw [ht] at hP1
  obtain ⟨hP, hD⟩ := g_joinC (w0 := []) hP hD hk1 hFc hP1 hD1
  generalize H1 = H at hP hS ⊢
  have hP : va_P D vwCl (gsl g ad1 0 183) H := hP
  have hD : va_D As (gsl g ad1 0 183) := hD
  refine lv_astore_n (lv' := [(1, .ref q0), (0, .ref b)]) hx hb dL_law_7 rfl hl (by decide) rfl (fun ls hl => ?_)
  refine va_new (ci := 6) (fs := [.int 0, .int 0, .null, .int 0, .null, .null, .null, .null, .null, .int 0, .null, .null, .int 0, .int 0]) (C := RX6) (T := TX6) (N := 14) hx hb hts gu_6 tyX6 tyX6_ok hown (hts _ qs_cl6) (hts _ qi_mk_6) (hts _ qi_ini_6) hK hP hD hS hA rfl (fun j hj => by rcases (show j = 0 ∨ j = 1 ∨ j = 2 ∨ j = 3 ∨ j = 4 ∨ j = 5 ∨ j = 6 ∨ j = 7 ∨ j = 8 ∨ j = 9 ∨ j = 10 ∨ j = 11 ∨ j = 12 ∨ j = 13 by omega) with rfl | rfl | rfl | rfl | rfl | rfl | rfl | rfl | rfl | rfl | rfl | rfl | rfl | rfl <;> rfl) (Nat.le_of_ble_eq_true rfl) (Nat.le_of_ble_eq_true rfl) dL_law_8 (fun q1 H hP hD hS => ?_)
  refine lv_dup hx hb dL_law_11 rfl ?_
  have hP : va_P D vwCl ((gsl g ad1 0 183) ++ [(q1, .inr (6, [.int 0, .int 0, .null, .int 0, .null, .null, .null, .null, .null, .int 0, .null, .null, .int 0, .int 0]))]) H := hP
  have hD : va_D As ((gsl g ad1 0 183) ++ [(q1, .inr (6, [.int 0, .int 0, .null, .int 0, .null, .null, .null, .null, .null, .int 0, .null, .null, .int 0, .int 0]))]) := hD
  have hPc : va_P D vwCl [(q1, .inr (6, [.int 0, .int 0, .null, .int 0, .null, .null, .null, .null, .null, .int 0, .null, .null, .int 0, .int 0]))] H := fun k z hz => hP ((gsl g ad1 0 183 : va_W).length + k) z (by rw [List.getElem?_append_right (Nat.le_add_right _ _), Nat.add_sub_cancel_left]; exact hz)
  have hDc : va_D (fun _ => True) [(q1, (.inr (6, [.int 0, .int 0, .null, .int 0, .null, .null, .null, .null, .null, .int 0, .null, .null, .int 0, .int 0]) : va_E))] := ⟨fun i j p z h1 h2 _ => by have a1 := (List.getElem?_eq_some_iff.mp h1).1; have a2 := (List.getElem?_eq_some_iff.mp h2).1; simp at a1 a2; omega, fun _ _ _ => trivial⟩
  have hFc : ∀ z, va_A [(q1, .inr (6, [.int 0, .int 0, .null, .int 0, .null, .null, .null, .null, .null, .int 0, .null, .null, .int 0, .int 0]))] H.size z → As z := fun z hz => by
    rcases hz with ⟨k, e2, h⟩ | h
    · exact hD.2 ((gsl g ad1 0 183 : va_W).length + k) (z, e2) (by rw [List.getElem?_append_right (Nat.le_add_right _ _), Nat.add_sub_cancel_left]; exact h)
    · exact hA z (Nat.le_trans hS.1 h)
  refine va_callv (va_runI (b := q1) (As := []) (rest := [.ref q1]) ⟨hx, hb, hml, hown, hts⟩ (kX6_init q1 H.size) (cwI 0 hts (g_inL qi_code_6) rfl rfl rfl (hts _ qi_ini_6) (hts _ qs_ml6) (hts _ qi_im_6) rfl ⟨by decide, by decide, by decide +kernel⟩ ⟨Nat.le_of_ble_eq_true rfl, Nat.le_of_ble_eq_true rfl⟩) ⟨g_blindC, fun U hU hW => ⟨rfl, by rw [hU], by rw [hU]; exact hPc, va_K.moved hW.alike hK, hDc, hNW.warm hW⟩⟩ rfl rfl hl.1 rfl (Nat.le_of_ble_eq_true rfl) dL_law_12 ⟨Nat.le_of_ble_eq_true rfl, Nat.le_of_ble_eq_true rfl⟩) hS (fun z _ h => hFc z h) hFc (fun ad2 t H1 locs1 ht hvm hwad2 hB hz1 hk1 hS => ?_)
  obtain ⟨hP1, hK1, hD1⟩ := hB
  rw [ht] at hP1
  obtain ⟨hP, hD⟩ := g_joinC (w0 := gsl g ad1 0 183) hP hD hk1 hFc hP1 hD1
  generalize H1 = H at hP hS ⊢
  refine lv_astore_n (lv' := [(2, .ref q1), (1, .ref q0), (0, .ref b)]) hx hb dL_law_15 rfl hl (by decide) rfl (fun ls hl => ?_)
  refine lv_iconst (v := 1) hx hb dL_law_16 (by decide) ?_
  refine va_newa (atype := .long) (ty := .long) (N' := 1) (a0 := (1, .inr (.inl (fun _ => 0)))) hx hb (hts _ qa_long) rfl hK hP hD hS hA (fun _ => rfl) (by decide) (by decide) (Nat.le_of_ble_eq_true rfl) (Nat.le_of_ble_eq_true rfl) (Nat.le_of_ble_eq_true rfl) dL_law_17 (fun q2 cA H hK1 hP hD hS => ?_)
  obtain rfl : cA = g.2.2.1 := g_clsJ hK1
  refine lv_astore_n (lv' := [(3, .ref q2), (2, .ref q1), (1, .ref q0), (0, .ref b)]) hx hb dL_law_19 rfl hl (by decide) rfl (fun ls hl => ?_)
  refine lv_iconst (v := 0) hx hb dL_law_20 (by decide) ?_
  refine lv_istore (lv' := [(4, .int 0), (3, .ref q2), (2, .ref q1), (1, .ref q0), (0, .ref b)]) hx hb dL_law_21 hl (by decide) rfl (fun ls hl => ?_)
  obtain ⟨ad, had⟩ : ∃ ad : Nat → Nat, ad = fun i => if i < 183 then ad1 i else if i < 192 then ad2 i else q2 := ⟨_, rfl⟩
  have f1 : ∀ i, 0 ≤ i → i < 183 → ad i = ad1 i := fun i _ h => by rw [had]; exact if_pos h
  have f2 : ∀ i, 183 ≤ i → i < 192 → ad i = ad2 i := fun i h1 h2 => by
    rw [had]
    show (if i < 183 then ad1 i else if i < 192 then ad2 i else q2) = _
    rw [if_neg (by omega), if_pos h2]
  have f3 : ad 192 = q2 := by rw [had]; rfl
  have hfin : (gsl g ad1 0 183 ++ gsl g ad2 183 9) ++ [(q2, (.inl (g.2.2.1, 1, .inr (.inl (fun _ => 0))) : va_E))] = gw g ad (fun _ => 500) (fun _ _ => 0) 193 := by
    rw [gw_gsl, show (193 : Nat) = (183 + 9) + 1 from rfl, gsl_app, gsl_app]
    rw [← gsl_cg2 (hi := 183) (by omega) rfl f1, ← gsl_cg2 (hi := 192) (by omega) rfl f2]
    congr 1
    have z : (fun _ : Nat => (0 : Int32).toInt64) = fun _ => 0 := funext fun _ => by decide
    show _ = [(ad 192, (.inl (g.2.2.1, 1, .inr (.inl (fun _ : Nat => (0 : Int32).toInt64))) : va_E))]
    rw [f3, z]
  rw [hfin] at hP hD
  refine W.widen (k := 193) (n := 34696) (Nat.le_of_ble_eq_true rfl) (Nat.le_of_ble_eq_true rfl) ?_
  subst hAs
  have C : gC p room_1 s m #[Value.ref b] meth c cL_law RL 9 D g (fun q : Nat => s.heap.size ≤ q) 2048 := ⟨hx, hb, hml, hown, hts, hK, fun _ h => h, hlocks, Nat.le_of_ble_eq_true rfl, Nat.le_of_ble_eq_true rfl⟩
  have hl2 : lv_has ls 9 ([(0, (.inr (.ref b) : gV)), (1, gr 0), (2, gr 183), (3, gr 192), (4, gi 0)].map (g_q ad)) := by
    have e : [(0, (.inr (.ref b) : gV)), (1, gr 0), (2, gr 183), (3, gr 192), (4, gi 0)].map (g_q ad) = [(0, .ref b), (1, .ref q0), (2, .ref q1), (3, .ref q2), (4, .int 0)] := by
      show [(0, Value.ref b), (1, .ref (ad 0)), (2, .ref (ad 183)), (3, .ref (ad 192)), (4, .int 0)] = _
      rw [f1 0 (by omega) (by omega), f2 183 (by omega) (by omega), f3, hwad1, hwad2]
    rw [e]
    exact lv_sub hl [4, 3, 2, 1, 0] rfl
  have CX : gLX l s meth b L xs := ⟨hst, hXs, hZ, hNC, hX, hbl, hr⟩
  have hcp : g_cap (fun _ => 500) 500 := ⟨rfl, rfl, rfl, rfl, rfl⟩
  have hfinal := wL_law_L23 (ad := ad) (p := p) (l := l) (e := e) (below := below) C CX gF hcp (A := fun _ _ => 0) (x4 := 0) hm
  exact hfinal H _ ls hP hD hS hl2
