theorem qs_cl5 : Cond.classLink RL 45 RX5 ∈ gtb := g_tb (List.mem_of_getElem? (i := 46) (by decide +kernel)) (by decide +kernel)
theorem qs_ml5 : Cond.methodLink RL 96 yX5_init ∈ gtb := g_tb (List.mem_of_getElem? (i := 48) (by decide +kernel)) (by decide +kernel)
theorem dL_law_0 : decode cL_law 0 = .ok (.new 45, 3) := by decide +kernel
theorem dL_law_3 : decode cL_law 3 = .ok (.dup, 1) := by decide +kernel
theorem dL_law_4 : decode cL_law 4 = .ok (.invokespecial 96, 3) := by decide +kernel
theorem dL_law_7 : decode cL_law 7 = .ok (.astore_n 1, 1) := by decide +kernel
theorem g_AOA_spec {u : State} (h : va_AOA .int u) : ∃ comp c k, u.vm.classes[c]? = some k ∧ k.kind = .array comp (.array .int) ∧ u.vm.findClass ("[" ++ (FieldType.array .int).toString) = some c := by
  simp only [va_AOA, Cond.before, Cond.holds, Cond.value, beq_iff_eq] at h
  cases hc : u.vm.findClass (FieldType.array .int).toString with
  | none => simp [hc] at h
  | some comp =>
    simp only [hc, Option.bind_some, Option.bind_eq_some_iff, Option.map_eq_some_iff] at h
    obtain ⟨c, hi, k, hk, hb⟩ := h
    obtain ⟨hlt, hp, -⟩ := Array.findIdx?_eq_some_iff_getElem.mp hi
    have hkk : u.vm.classes[c] = k := (Array.getElem?_eq_some_iff.mp hk).2
    rw [hkk] at hp
    cases hkind : k.kind with
    | array component ty =>
      rw [hkind] at hb hp
      simp at hb hp
      exact ⟨comp, c, k, hk, by rw [hkind, hp, hb.1], hb.2⟩
    | _ => rw [hkind] at hb; simp at hb
theorem g_gxw_in : ∀ w ∈ gxw, w ∈ lw_tbl := by decide +kernel
theorem g_gnw_in : ∀ w ∈ gnw, w ∈ lw_tbl := by decide +kernel
theorem gw_gsl {g : gT} {ad : Nat → Nat} {n : Nat} : gw g ad (fun _ => 500) (fun _ _ => 0) n = gsl g ad 0 n := by
  unfold gw gsl
  apply List.map_congr_left
  intro j _
  rw [Nat.zero_add]
set_option maxHeartbeats 4000000 in
set_option maxRecDepth 100000 in
/-- THE LAW, from its entry, out of its model -/
theorem whole_start_of {p : Program} {e : Env} {s : State} {m : MethodId} {below : List Frame} {meth : Method} {c : Code} (l : Launch) (hflags : l.flags = flags0) {b L : Nat} {xs : Nat → Int32} (C0 : lw_At p s m meth c b L xs) (hm : mL_law_b8 xs L 183 (fun _ => 500) 183 31813 (fun _ _ => 0) = some ()) : W p l e room_1 s m #[Value.ref b] below meth c s.heap [] 0 0 (lw_Z below #[Value.ref b] s) (entryFrame m ([Value.ref b] : List Value).toArray 25) := by
  obtain ⟨hx, hb, hr, hml, hown, hts0, hX, hbl, hlocks, hgv⟩ := id C0
  have hts : ∀ w ∈ gtb, w.before #[Value.ref b] s = true := fun w hw => hts0 w (List.mem_filter.mp hw).1
  obtain ⟨As, hAs⟩ : ∃ As : Nat → Prop, As = fun q : Nat => s.heap.size ≤ q := ⟨_, rfl⟩
  have hA : ∀ q : Nat, s.heap.size ≤ q → As q := fun q h => by rw [hAs]; exact h
  have hgs := flat_of_before _ hgv
  have hst : l.stackTraces = false := by
    first | (rw [show l.stackTraces = Launch.stackTraces l from rfl]; unfold Launch.stackTraces; rw [hflags]; decide +kernel) | (simp [Launch.stackTraces, hflags]; done) | (simp [Launch.stackTraces, hflags, flags0])
  have hXs : gX s := fun w hw => va_Nw.of (gX_tab w hw) (hts0 w (g_gxw_in w hw))
  have hAO : va_AOA .int s := (hts0 (.arrayOver (.array .int)) (List.mem_of_getElem? (i := 61) (by decide +kernel)) : (Cond.arrayOver (.array .int)).before #[Value.ref b] s = true)
  have hNW : gNW s := ⟨fun w hw => va_Nw.of (gnw_tab w hw) (hts0 w (g_gnw_in w hw)), hAO⟩
  have hnA : ∀ a : Nat, a < s.heap.size → ¬ As a := fun a h => by rw [hAs]; exact Nat.not_le.mpr h
  have hZ : gZ As s s.heap := ⟨vx_Zqof (hts0 _ (List.mem_of_getElem? (i := 217) (by decide +kernel))) (hts0 _ (List.mem_of_getElem? (i := 40) (by decide +kernel))) (hgs _ (by decide +kernel)) hnA, vx_Zqof (hts0 _ (List.mem_of_getElem? (i := 219) (by decide +kernel))) (hts0 _ (List.mem_of_getElem? (i := 40) (by decide +kernel))) (hgs _ (by decide +kernel)) hnA⟩
  obtain ⟨cI, kI, pI, fI, hkI, hdI⟩ := Cond.arrayClass_spec (hts _ qa_int)
  obtain ⟨pO, cO, kO, hkO, hdO, fO⟩ := g_AOA_spec hAO

  obtain ⟨c0, i0, hKn0⟩ := u_known (C := RX0) (T := TX0) (N := 5) hts gu_0 (hts _ qi_mk_0)
  obtain ⟨c1, i1, hKn1⟩ := u_known (C := RX1) (T := TX1) (N := 4) hts gu_1 (hts _ qi_mk_1)
  obtain ⟨c2, i2, hKn2⟩ := u_known (C := RX2) (T := TX2) (N := 2) hts gu_2 (hts _ qi_mk_2)
  obtain ⟨c3, i3, hKn3⟩ := u_known (C := RX3) (T := TX3) (N := 4) hts gu_3 (hts _ qi_mk_3)
  obtain ⟨c4, i4, hKn4⟩ := u_known (C := RX4) (T := TX4) (N := 11) hts gu_4 (hts _ qi_mk_4)
  obtain ⟨c5, i5, hKn5⟩ := u_known (C := RX5) (T := TX5) (N := 3) hts gu_5 (hts _ qi_mk_5)
  obtain ⟨D, hKc⟩ : ∃ (D : va_G), ∀ (k : Nat) (q : vw_C), vwCl[k]? = some q → u_Kn s q.1 q.2.1 q.2.2 (D.1 k) (D.2 k) := by
    refine ⟨(fun k => if k = 0 then c0 else if k = 1 then c1 else if k = 2 then c2 else if k = 3 then c3 else if k = 4 then c4 else c5, fun k => if k = 0 then i0 else if k = 1 then i1 else if k = 2 then i2 else if k = 3 then i3 else if k = 4 then i4 else i5), ?_⟩
    intro k q hq
    match k, hq with
    | 0, hq => cases hq; exact hKn0
    | 1, hq => cases hq; exact hKn1
    | 2, hq => cases hq; exact hKn2
    | 3, hq => cases hq; exact hKn3
    | 4, hq => cases hq; exact hKn4
    | 5, hq => cases hq; exact hKn5
    | k + 6, hq => simp [vwCl] at hq
  obtain ⟨g, hg⟩ : ∃ g : gT, g = (cI, cO) := ⟨_, rfl⟩
  have hK : va_K D vwCl (g_tys g) s := by
    refine ⟨hKc, fun k q h => ?_⟩
    rw [hg] at h
    match k, h with
    | 0, h => cases h; exact ⟨fun n z => ⟨(fun k h => by cases h), kI, hkI, pI, hdI⟩, fI⟩
    | 1, h => cases h; exact ⟨fun n z => ⟨(fun k h => by cases h), kO, hkO, pO, hdO⟩, fO⟩
    | k + 2, h => simp [g_tys] at h
  have hS : va_S As s.heap s.heap [] := va_S.rf
  have hP : va_P D vwCl [] s.heap := fun k q h => by simp at h
  have hD : va_D As [] := ⟨fun i j p q h => by simp at h, fun k q h => by simp at h⟩
  have hl := lv_entry ([.ref b]) (n := 25) (Nat.le_of_ble_eq_true rfl)
  rw [lg_entry_eq]
  generalize (lg_sl ([.ref b]) ++ List.replicate (25 - (lg_sl ([.ref b])).length) Slot.unset).toArray = ls at hl ⊢
  have hl : lv_has ls 25 [(0, .ref b)] := hl
  refine va_new (ci := 5) (fs := [.null, .null, .null]) (C := RX5) (T := TX5) (N := 3) hx hb hts gu_5 tyX5 tyX5_ok hown (hts _ qs_cl5) (hts _ qi_mk_5) (hts _ qi_ini_5) hK hP hD hS hA rfl (fun j hj => by rcases (show j = 0 ∨ j = 1 ∨ j = 2 by omega) with rfl | rfl | rfl <;> rfl) (Nat.le_of_ble_eq_true rfl) (Nat.le_of_ble_eq_true rfl) dL_law_0 (fun q0 H hP hD hS => ?_)
  refine lv_dup hx hb dL_law_3 rfl ?_
  have hP : va_P D vwCl (([]) ++ [(q0, .inr (5, [.null, .null, .null]))]) H := hP
  have hD : va_D As (([]) ++ [(q0, .inr (5, [.null, .null, .null]))]) := hD
  have hPc : va_P D vwCl [(q0, .inr (5, [.null, .null, .null]))] H := fun k z hz => hP (([] : va_W).length + k) z (by rw [List.getElem?_append_right (Nat.le_add_right _ _), Nat.add_sub_cancel_left]; exact hz)
  have hDc : va_D (fun _ => True) [(q0, (.inr (5, [.null, .null, .null]) : va_E))] := ⟨fun i j p z h1 h2 _ => by have a1 := (List.getElem?_eq_some_iff.mp h1).1; have a2 := (List.getElem?_eq_some_iff.mp h2).1; simp at a1 a2; omega, fun _ _ _ => trivial⟩
  have hFc : ∀ z, va_A [(q0, .inr (5, [.null, .null, .null]))] H.size z → As z := fun z hz => by
    rcases hz with ⟨k, e2, h⟩ | h
    · exact hD.2 (([] : va_W).length + k) (z, e2) (by rw [List.getElem?_append_right (Nat.le_add_right _ _), Nat.add_sub_cancel_left]; exact h)
    · exact hA z (Nat.le_trans hS.1 h)
  refine va_callv (va_runI (b := q0) (As := []) (rest := [.ref q0]) ⟨hx, hb, hml, hown, hts⟩ (kX5_init q0 H.size) (cwI 0 hts (g_inL qi_code_5) rfl rfl rfl (hts _ qi_ini_5) (hts _ qs_ml5) (hts _ qi_im_5) rfl ⟨by decide, by decide, by decide +kernel⟩ ⟨Nat.le_of_ble_eq_true rfl, Nat.le_of_ble_eq_true rfl⟩) ⟨g_blindC, fun U hU hW => ⟨rfl, by rw [hU], by rw [hU]; exact hPc, va_K.moved hW.alike hK, hDc, hNW.warm hW⟩⟩ rfl rfl hl.1 rfl (Nat.le_of_ble_eq_true rfl) dL_law_4 ⟨Nat.le_of_ble_eq_true rfl, Nat.le_of_ble_eq_true rfl⟩) hS (fun z _ h => hFc z h) hFc (fun ad1 t H1 locs1 ht hvm hwad1 hB hz1 hk1 hS => ?_)
  obtain ⟨hP1, hK1, hD1⟩ := hB
  rw [ht] at hP1
  obtain ⟨hP, hD⟩ := g_joinC (w0 := []) hP hD hk1 hFc hP1 hD1
  generalize H1 = H at hP hS ⊢
  have hP : va_P D vwCl (gsl g ad1 0 183) H := hP
  have hD : va_D As (gsl g ad1 0 183) := hD
  refine lv_astore_n (lv' := [(1, .ref q0), (0, .ref b)]) hx hb dL_law_7 rfl hl (by decide) rfl (fun ls hl => ?_)
  have hfin : gsl g ad1 0 183 = gw g ad1 (fun _ => 500) (fun _ _ => 0) 183 := gw_gsl.symm
  rw [hfin] at hP hD
  refine W.widen (k := 183) (n := 31813) (Nat.le_of_ble_eq_true rfl) (Nat.le_of_ble_eq_true rfl) ?_
  subst hAs
  have C : gC p room_1 s m #[Value.ref b] meth c cL_law RL 25 D g (fun q : Nat => s.heap.size ≤ q) 2048 := ⟨hx, hb, hml, hown, hts, hK, fun _ h => h, hlocks, Nat.le_of_ble_eq_true rfl, Nat.le_of_ble_eq_true rfl⟩
  have hl2 : lv_has ls 25 ([(0, (.inr (.ref b) : gV)), (1, gr 0)].map (g_q ad1)) := by
    have e : [(0, (.inr (.ref b) : gV)), (1, gr 0)].map (g_q ad1) = [(0, .ref b), (1, .ref q0)] := by
      show [(0, Value.ref b), (1, .ref (ad1 0))] = _
      rw [hwad1]
    rw [e]
    exact lv_sub hl [1, 0] rfl
  have CX : gCP l s (fun q : Nat => s.heap.size ≤ q) b L xs := ⟨hst, hXs, hZ, hAO, hX, hbl, hnA b hbl⟩
  have hfinal := wL_law_b8 (ad := ad1) (p := p) (l := l) (e := e) (below := below) C CX hr (Nat.le_refl _) hm
  exact hfinal H _ ls hP hD hS hl2
