theorem qa_int : Cond.arrayClass .int ∈ gtb := g_tb (List.mem_of_getElem? (i := 111) (by decide +kernel)) (by decide +kernel)
theorem qa_boolean : Cond.arrayClass .boolean ∈ gtb := g_tb (List.mem_of_getElem? (i := 782) (by decide +kernel)) (by decide +kernel)
theorem qsC_X6_54 : g_siteC RX6 54 := ⟨g_tb (List.mem_of_getElem? (i := 814) (by decide +kernel)) (by decide +kernel), g_tb (List.mem_of_getElem? (i := 816) (by decide +kernel)) (by decide +kernel), g_tb (List.mem_of_getElem? (i := 815) (by decide +kernel)) (by decide +kernel), g_tb (List.mem_of_getElem? (i := 86) (by decide +kernel)) (by decide +kernel)⟩
theorem qf_X6_26 : Cond.fieldLink RX6 26 (TX6 8).1 (TX6 8).2.1 (TX6 8).2.2.1 ∈ gtb := g_tb (List.mem_of_getElem? (i := 747) (by decide +kernel)) (by decide +kernel)
theorem qf_X6_78 : Cond.fieldLink RX6 78 (TX6 3).1 (TX6 3).2.1 (TX6 3).2.2.1 ∈ gtb := g_tb (List.mem_of_getElem? (i := 742) (by decide +kernel)) (by decide +kernel)
theorem qs_X6_81 : g_siteS RX6 81 yX6_more cX6_more 2 (some (.array .int)) 1 := ⟨g_tb (List.mem_of_getElem? (i := 893) (by decide +kernel)) (by decide +kernel), g_tb (List.mem_of_getElem? (i := 894) (by decide +kernel)) (by decide +kernel), g_tb (List.mem_of_getElem? (i := 79) (by decide +kernel)) (by decide +kernel), g_tb (List.mem_of_getElem? (i := 895) (by decide +kernel)) (by decide +kernel), ⟨rfl, by decide, by decide, by decide +kernel⟩, by decide⟩
theorem dX6_more_0 : decode cX6_more 0 = .ok (.iconst 2, 1) := by decide +kernel
theorem dX6_more_1 : decode cX6_more 1 = .ok (.aload_n 0, 1) := by decide +kernel
theorem dX6_more_2 : decode cX6_more 2 = .ok (.arraylength, 1) := by decide +kernel
theorem dX6_more_3 : decode cX6_more 3 = .ok (.imul, 1) := by decide +kernel
theorem dX6_more_4 : decode cX6_more 4 = .ok (.newarray .int, 2) := by decide +kernel
theorem dX6_more_6 : decode cX6_more 6 = .ok (.astore_n 1, 1) := by decide +kernel
theorem dX6_more_7 : decode cX6_more 7 = .ok (.aload_n 0, 1) := by decide +kernel
theorem dX6_more_8 : decode cX6_more 8 = .ok (.iconst 0, 1) := by decide +kernel
theorem dX6_more_9 : decode cX6_more 9 = .ok (.aload_n 1, 1) := by decide +kernel
theorem dX6_more_10 : decode cX6_more 10 = .ok (.iconst 0, 1) := by decide +kernel
theorem dX6_more_11 : decode cX6_more 11 = .ok (.aload_n 0, 1) := by decide +kernel
theorem dX6_more_12 : decode cX6_more 12 = .ok (.arraylength, 1) := by decide +kernel
theorem dX6_more_13 : decode cX6_more 13 = .ok (.invokestatic 54, 3) := by decide +kernel
theorem dX6_more_16 : decode cX6_more 16 = .ok (.aload_n 1, 1) := by decide +kernel
theorem dX6_more_17 : decode cX6_more 17 = .ok (.areturn, 1) := by decide +kernel
/-- GearTypesModel.more(row): a new array of twice the places, the elder's in front -/
def g_Qn (D : va_G) (g : gT) (N : Nat) (ad ln : Nat → Nat) (A : gM) (sz : Nat) (A' : gM) (w : Nat) : Array Value → State → Outcome → State → Prop :=
  va_Qr (S := Nat) (fun _ => True) (fun q a t => a = q ∧ va_P D vwCl (gw g (va_up ad N q) (va_up ln N w) A' (N + 1)) t.heap ∧ va_K D vwCl (g_tys g) t ∧ va_D (va_A (gw g ad ln A N) sz) (gw g (va_up ad N q) (va_up ln N w) A' (N + 1))) (va_A (gw g ad ln A N) sz)
def g_dbl (A : gM) (i w : Nat) : Nat → Int32 := fun j => if j < w then A i j else 0
theorem g_dbl_cpy {A : gM} {N i w : Nat} (hi : i ≠ N) : g_row (g_row A N (fun _ => 0)) N (va_cpy ((g_row A N (fun _ => 0)) i) ((g_row A N (fun _ => 0)) N) (0 : Int32).toNatClampNeg (0 : Int32).toNatClampNeg w) = g_row A N (g_dbl A i w) := by
  funext a
  by_cases e : a = N
  · subst e
    rw [g_row_s, g_row_s, g_row_s, g_row_n hi]
    funext j
    show va_cpy (A i) (fun _ => 0) 0 0 w j = g_dbl A i w j
    unfold g_dbl
    by_cases q : j < w
    · rw [if_pos q, sb_cpy0 q]
    · rw [if_neg q, pk_cpy_out (Or.inr (by omega))]
  · rw [g_row_n e, g_row_n e, g_row_n e]
section GR
variable {p : Program} {l : Launch} {e : Env} {R : Room} {s : State} {m : MethodId} {args : Array Value} {below : List Frame} {meth : Method} {c : Code} {Q : State → Prop} {nL : Nat} {D : va_G} {g : gT} {As : Nat → Prop} {N : Nat} {ad ln ad0 ln0 : Nat → Nat} {A A' A1 A0 : gM} {loc loc' : List (Nat × gV)} {k n pc cp : Nat} {st : List gV} {cc : ByteArray} {own : String} {d : Nat}
theorem g_I2 {w : Nat} (h : w ≤ 40000) : ¬ (2 * Int32.ofNat w) < 0 ∧ (2 * Int32.ofNat w).toNatClampNeg = 2 * w ∧ ¬ (Int32.ofNat w) < 0 ∧ (Int32.ofNat w).toNatClampNeg = w := by
  have e : (2 : Int32) * Int32.ofNat w = nI (2 * w) := pk_mul 2 w
  rw [e]
  exact ⟨nI_pos (by omega), nI_clamp (by omega), nI_pos (n := w) (by omega), nI_clamp (n := w) (by omega)⟩
set_option maxHeartbeats 2000000 in
set_option maxRecDepth 20000 in
theorem k_more {l : Launch} {D : va_G} {g : gT} {N : Nat} (hN : 193 ≤ N) {ad ln : Nat → Nat} {A : gM} {x0 w : Nat} (hw : x0 < N ∧ g_isI x0 = true ∧ g_ln ln x0 = w) (h4 : w ≤ 40000) (sz : Nat) : Met l yX6_more (g_ws yX6_more cX6_more 2 (some (.array .int))) (g_rmx 2 1 (2 * w)) (g_pre D g N ad ln A sz [gr x0]) (g_Qn D g N ad ln A sz (g_row A N (g_dbl A x0 w)) (2 * w)) 1 (2 * w) (va_A (gw g ad ln A N) sz) := by
  obtain ⟨i1, i2, i3, i4⟩ := g_I2 h4
  refine Met.ofW (cc := cX6_more) (maxL := 2) (ret := some (.array .int)) (by decide) rfl ?_
  intro p e s m args below meth c s₁ B hml hv
  obtain ⟨rfl, hsz, hP, hK, hD0⟩ := hv
  subst hsz
  have hts := atoms_spec (ws := g_ws yX6_more cX6_more 2 (some (.array .int))) B.pre
  have hown : s.vm.findClass yX6_more.cls = some m.cls := findClass_of_methodNamed B.named
  have hl := lv_entry ([gr x0].map (g_v ad)) (n := 2) (Nat.le_of_ble_eq_true rfl)
  rw [lg_entry_eq]
  have C : gC p (g_rmx 2 1 (2 * w)) s m ([gr x0].map (g_v ad)).toArray meth c cX6_more yX6_more.cls 2 D g (va_A (gw g ad ln A N) s.heap.size) 2 := ⟨B.exec, B.bytes, hml, hown, fun w hw => hts w (List.mem_cons_of_mem _ hw), hK, fun q h => Or.inr h, B.notSynchronized, Nat.le_refl _, Nat.le_refl _⟩
  have hr := B.returns
  refine (?_ : gJ p l e (g_rmx 2 1 (2 * w)) s m ([gr x0].map (g_v ad)).toArray below meth c (MQ below (g_Qn D g N ad ln A s.heap.size (g_row A N (g_dbl A x0 w)) (2 * w)) ([gr x0].map (g_v ad)).toArray s 1 (2 * w) (va_A (gw g ad ln A N) s.heap.size)) 2 D g (va_A (gw g ad ln A N) s.heap.size) N ad ln A [(0, gr x0)] 0 0 0 []) s.heap [] _ hP hD0.self va_S.rf hl
  refine g_iconst (v := 2) C dX6_more_0 (by decide) ?_
  refine g_aload_n C 0 dX6_more_1 rfl ?_
  refine g_alen (v := Int32.ofNat w) C x0 hw.1 hw.2.1 (by rw [hw.2.2]) dX6_more_2 ?_
  refine g_imul C dX6_more_3 ?_
  refine g_newI C (N := N) (w := 2 * w) hN qa_int i1 i2 (by omega) ⟨Nat.le_refl _, by show 0 + 2 * w ≤ 2 * w; omega⟩ (by simp [g_rlt] <;> omega) trivial dX6_more_4 (fun q => ?_)
  have hw2 := g_len_new (w := 2 * w) (N := N) hw.1 hw.2.2
  refine g_astore_n C dX6_more_6 (by decide) rfl ?_
  refine g_aload_n C 1 dX6_more_7 rfl ?_
  refine g_iconst (v := 0) C dX6_more_8 (by decide) ?_
  refine g_aload_n C 0 dX6_more_9 rfl ?_
  refine g_iconst (v := 0) C dX6_more_10 (by decide) ?_
  refine g_aload_n C 1 dX6_more_11 rfl ?_
  refine g_alen (v := Int32.ofNat w) C x0 (by omega) hw.2.1 (by rw [hw2]) dX6_more_12 ?_
  refine g_copy C x0 N qsC_X6_54 (by omega) hw.2.1 hw2 (by omega) (g_isI_big hN) (g_len_made hN) (by decide) (by decide) i3 (by rw [i4]; exact Nat.le_of_eq (Nat.zero_add _)) (by rw [i4]; show 0 + w ≤ 2 * w; omega) (by omega) (Nat.le_of_ble_eq_true rfl) rfl dX6_more_13 ?_
  rw [i4, g_dbl_cpy (by omega)]
  refine g_aload_n C 0 dX6_more_16 rfl ?_
  intro H locs ls hP hD hS hl
  refine W.widen (k := 1) (n := 2 * w) (by omega) (by omega) ?_
  refine W.aret (v := .ref (va_up ad N q N)) C.1 C.2.1 hr (Or.inr ⟨_, rfl⟩) (Or.inr ⟨_, rfl⟩) (fun t ht hW => ⟨⟨q, va_up ad N q N, rfl, trivial, if_pos rfl, by rw [ht]; exact hP, va_K.moved hW.alike C.2.2.2.2.2.1, hD⟩, hS.F ht⟩) hS.2.2 dX6_more_17 C.2.2.2.2.2.2.2.1
/-- a call of more -/
theorem g_callMore (C : gC p R s m args meth c cc own nL D g As d) (x0 : Nat) {w ix : Nat} (hN : 193 ≤ N) (hw : x0 < N ∧ g_isI x0 = true ∧ g_ln ln x0 = w) (h4 : w ≤ 40000) (hs : g_siteS own ix yX6_more cX6_more 2 (some (.array .int)) 1) (hd : 3 ≤ d) (hcat : (st.map g_cat).sum ≤ 8) (hkn : k + 1 ≤ R.cells ∧ n + 2 * w ≤ R.slots) (hr : g_rlt N (loc.map Prod.snd)) (hr2 : g_rlt N st) (hdg : decode cc pc = .ok (.invokestatic ix, 3)) (kk : ∀ q : Nat, gJ p l e R s m args below meth c Q nL D g As (N + 1) (va_up ad N q) (va_up ln N (2 * w)) (g_row A N (g_dbl A x0 w)) loc (k + 1) (n + 2 * w) (pc + 3) (gr N :: st)) : gJ p l e R s m args below meth c Q nL D g As N ad ln A loc k n pc (gr x0 :: st) := by
  intro H locs ls hP hD hS hl
  have hF := g_frees hD hS C.2.2.2.2.2.2.1
  refine va_callr (va_runS (As := [gr x0].map (g_v ad)) (rest := st.map (g_v ad)) ⟨C.1, C.2.1, C.2.2.1, C.2.2.2.1, C.2.2.2.2.1⟩ (k_more hN hw h4 H.size) (cwS 1 C.2.2.2.2.1 (g_goodS hs) rfl rfl rfl hs.2.2.2.2.1 (g_roomx C.2.2.2.2.2.2.2.2 hd hs.2.2.2.2.2)) ⟨g_blind, fun U hU hW => ⟨rfl, by rw [hU], by rw [hU]; exact hP, va_K.moved hW.alike C.2.2.2.2.2.1, hD.weaken (fun _ _ _ _ => trivial)⟩⟩ rfl rfl hl.1 rfl (g_lv hcat) hdg hkn) hS (fun q _ h => hF q h) hF (fun q ra t H1 locs1 ht hvm hw hB hz1 hk1 hS => ?_)
  obtain ⟨rfl, hP1, hK1, hD1⟩ := hB
  rw [ht] at hP1
  have hv : ∀ {vs : List gV}, g_rlt N vs → ∀ v ∈ vs, g_v (va_up ad N ra) v = g_v ad v := by
    intro vs
    induction vs with
    | nil => intro _ v hv; cases hv
    | cons a r ih =>
      intro h v hv
      cases a with
      | inl i =>
        rcases List.mem_cons.mp hv with rfl | hv
        · show Value.ref (va_up ad N ra i) = .ref (ad i)
          rw [show va_up ad N ra i = ad i from if_neg (by have := h.1; omega)]
        · exact ih h.2 v hv
      | inr y =>
        rcases List.mem_cons.mp hv with rfl | hv
        · rfl
        · exact ih h v hv
  have e1 : loc.map (g_q (va_up ad N ra)) = loc.map (g_q ad) := List.map_congr_left fun z hz => by
    show (z.1, g_v _ z.2) = (z.1, g_v ad z.2)
    rw [hv hr z.2 (List.mem_map.mpr ⟨z, hz, rfl⟩)]
  have e2 : st.map (g_v (va_up ad N ra)) = st.map (g_v ad) := List.map_congr_left (hv hr2)
  have hk := kk ra H1 locs1 ls hP1 (hD1.weaken (fun _ _ _ h => hF _ h)) hS (by rw [e1]; exact hl)
  have e3 : (gr N :: st).map (g_v (va_up ad N ra)) = .ref ra :: st.map (g_v ad) := by
    rw [List.map_cons, e2]
    show Value.ref (va_up ad N ra N) :: _ = _
    rw [show va_up ad N ra N = ra from if_pos rfl]
  rw [e3] at hk
  exact hk
/-- the fields of the reference's object, with q in the place of array c's address -/
theorem g_ce_ne {ad' : Nat → Nat} {x : Nat} {f : Nat → Int32} {i : Nat} (hi : i ≠ 183) (h : ∀ i, i < 193 → (i < 185 ∨ 190 ≤ i) → ad' i = ad i) : g_ce g ad' x f i = g_ce g ad x f i := by
  have ho : ∀ b, b ≤ 141 → g_out ad' b = g_out ad b := by
    intro b hb
    unfold g_out
    congr 5
    funext j
    by_cases q : j < 40
    · rw [if_pos q, if_pos q, h _ (by omega) (by omega)]
    · rw [if_neg q, if_neg q]
  unfold g_ce
  rw [if_neg hi, if_neg hi]
  rw [ho 3 (by omega), ho 45 (by omega), ho 86 (by omega), ho 141 (by omega)]
  rw [h 130 (by omega) (by omega), h 131 (by omega) (by omega), h 132 (by omega) (by omega), h 133 (by omega) (by omega), h 134 (by omega) (by omega), h 135 (by omega) (by omega), h 136 (by omega) (by omega), h 137 (by omega) (by omega), h 1 (by omega) (by omega), h 43 (by omega) (by omega), h 128 (by omega) (by omega), h 2 (by omega) (by omega), h 44 (by omega) (by omega), h 85 (by omega) (by omega), h 126 (by omega) (by omega), h 127 (by omega) (by omega), h 129 (by omega) (by omega), h 138 (by omega) (by omega), h 182 (by omega) (by omega), h 139 (by omega) (by omega), h 140 (by omega) (by omega), h 181 (by omega) (by omega)]
def g_fs (ad : Nat → Nat) (f : Nat → Int32) : List Value := [.int (f 0), .int (f 1), .ref (ad 184), .int (f 3), .ref (ad 185), .ref (ad 186), .ref (ad 187), .ref (ad 188), .ref (ad 189), .int (f 9), .ref (ad 190), .ref (ad 191), .int (f 12), .int (f 13)]
theorem g_fs_set {f : Nat → Int32} {q : Nat} (j : Nat) (hj : j < 5) : (g_fs ad f).set (4 + j) (.ref q) = g_fs (va_up ad (185 + j) q) f := by
  match j, hj with
  | 0, _ => rfl
  | 1, _ => rfl
  | 2, _ => rfl
  | 3, _ => rfl
  | 4, _ => rfl
theorem g_ln_up {cI w k : Nat} (hk : k ≠ cI) : g_ln (va_up ln cI w) k = g_ln ln k := by
  unfold g_ln
  rw [show va_up ln cI w k = ln k from if_neg hk]
/-- a new array e at q, its address put into the object's field: it is now cell 185 + j -/
theorem g_putW {H : Heap} {q w j : Nat} {f : Nat → Int32} {e : va_E} (hj : j < 5) (hN : 193 ≤ N) (he : e = g_ce g ad w f (185 + j))
    (hP : va_P D vwCl ((gw g ad ln A N ++ [(q, e)]).set 183 (ad 183, .inr (6, (g_fs ad (A 183)).set (4 + j) (.ref q)))) H) (hD : va_D As ((gw g ad ln A N ++ [(q, e)]).set 183 (ad 183, .inr (6, (g_fs ad (A 183)).set (4 + j) (.ref q))))) :
    va_P D vwCl (gw g (va_up ad (185 + j) q) (va_up ln (185 + j) w) (g_row A (185 + j) f) N) H ∧ va_D As (gw g (va_up ad (185 + j) q) (va_up ln (185 + j) w) (g_row A (185 + j) f) N) := by
  rw [g_fs_set j hj] at hP hD
  have hup : ∀ i, i < 193 → (i < 185 ∨ 190 ≤ i) → va_up ad (185 + j) q i = ad i := fun i _ h => if_neg (by omega)
  -- where an entry of the new list stands in the old one
  have key : ∀ (k : Nat) (z : Nat × va_E), (gw g (va_up ad (185 + j) q) (va_up ln (185 + j) w) (g_row A (185 + j) f) N)[k]? = some z → ((gw g ad ln A N ++ [(q, e)]).set 183 (ad 183, .inr (6, g_fs (va_up ad (185 + j) q) (A 183))))[if k = 185 + j then N else k]? = some z := by
    intro k z h
    obtain ⟨hk, rfl⟩ := gw_of h
    rw [List.getElem?_set]
    by_cases e1 : k = 185 + j
    · subst e1
      rw [if_pos rfl, if_neg (by omega), List.getElem?_append_right (by rw [gw_len]; exact Nat.le_refl _), gw_len, Nat.sub_self, g_row_s]
      show some (q, e) = _
      rw [show va_up ad (185 + j) q (185 + j) = q from if_pos rfl, he, g_ce_ne (by omega) hup]
      have e2 : g_ln (va_up ln (185 + j) w) (185 + j) = w := by
        unfold g_ln
        rw [if_pos (Or.inl (by omega))]
        exact if_pos rfl
      rw [e2]
    · rw [if_neg e1]
      by_cases e3 : k = 183
      · subst e3
        rw [if_pos rfl, if_pos (by rw [List.length_append, gw_len]; simp; omega), g_row_n e1]
        rw [show va_up ad (185 + j) q 183 = ad 183 from hup 183 (by omega) (by omega)]
        rfl
      · rw [if_neg (fun h => e3 h.symm), List.getElem?_append_left (by rw [gw_len]; exact hk), gw_at hk, g_row_n e1, g_ln_up e1, g_ce_ne e3 hup]
        rw [show va_up ad (185 + j) q k = ad k from if_neg e1]
  refine ⟨fun k z h => hP _ z (key k z h), ⟨fun i1 j1 p1 q1 h1 h2 h3 => ?_, fun k z h => hD.2 _ z (key k z h)⟩⟩
  have hh := hD.1 _ _ _ _ (key i1 p1 h1) (key j1 q1 h2) h3
  have b1 := (gw_of h1).1
  have b2 := (gw_of h2).1
  by_cases c1 : i1 = 185 + j
  · by_cases c2 : j1 = 185 + j
    · omega
    · rw [if_pos c1, if_neg c2] at hh; omega
  · by_cases c2 : j1 = 185 + j
    · rw [if_neg c1, if_pos c2] at hh; omega
    · rw [if_neg c1, if_neg c2] at hh; exact hh
theorem g_rok_up {cI q : Nat} (hc : 185 ≤ cI ∧ cI < 190) : ∀ {vs : List gV}, g_rok N vs → ∀ v ∈ vs, g_v (va_up ad cI q) v = g_v ad v
  | [], _, v, hv => by cases hv
  | .inl i :: r, hr, v, hv => by
    rcases List.mem_cons.mp hv with rfl | hv
    · show Value.ref (va_up ad cI q i) = .ref (ad i)
      rw [show va_up ad cI q i = ad i from if_neg (by have := hr.1; omega)]
    · exact g_rok_up hc hr.2 v hv
  | .inr x :: r, hr, v, hv => by
    rcases List.mem_cons.mp hv with rfl | hv
    · rfl
    · exact g_rok_up (vs := r) hc hr v hv
/-- putfield of a new int array: it takes cell 185 + j's place -/
theorem g_putG (C : gC p R s m args meth c cc RX6 nL D g As d) (j : Nat) {ix w : Nat} (hj : j < 5) (hj3 : j ≠ 3) (hN : 193 ≤ N) (hw : g_ln ln N = w) (hq : Cond.fieldLink RX6 ix (TX6 (4 + j)).1 (TX6 (4 + j)).2.1 (TX6 (4 + j)).2.2.1 ∈ gtb) (hu : ∀ w ∈ wsX60, w ∈ gtb) (hr : g_rok N (loc.map Prod.snd)) (hr2 : g_rok N st) (hdg : decode cc pc = .ok (.putfield ix, 3))
    (kk : gJ p l e R s m args below meth c Q nL D g As N (va_up ad (185 + j) (ad N)) (va_up ln (185 + j) w) (g_row A (185 + j) (A N)) loc k n (pc + 3) st) : gJ p l e R s m args below meth c Q nL D g As (N + 1) ad ln A loc k n pc (gr N :: gr 183 :: st) := by
  intro H locs ls hP hD hS hl
  have hpush : gw g ad ln A (N + 1) = gw g ad ln A N ++ [(ad N, .inl (g.1, w, .inl (A N)))] := by
    unfold gw
    rw [List.range_succ, List.map_append]
    show _ ++ [(ad N, g_ce g ad (g_ln ln N) (A N) N)] = _
    rw [hw, g_ce_I (g_isI_big hN)]
  rw [hpush] at hP hD
  have hat : (gw g ad ln A N ++ [(ad N, Sum.inl (g.1, w, .inl (A N)))])[183]? = some (ad 183, .inr (6, g_fs ad (A 183))) := by
    rw [List.getElem?_append_left (by rw [gw_len]; omega), gw_at (by omega)]; rfl
  have hfin : (TX6 (4 + j)).2.2.2 = false := by
    match j, hj with
    | 0, _ => rfl
    | 1, _ => rfl
    | 2, _ => rfl
    | 3, _ => rfl
    | 4, _ => rfl
  have hty : parseFieldDescriptor (TX6 (4 + j)).2.2.1 = some (.array .int) := by
    match j, hj with
    | 0, _ => decide +kernel
    | 1, _ => decide +kernel
    | 2, _ => decide +kernel
    | 3, _ => exact absurd rfl hj3
    | 4, _ => decide +kernel
  refine va_put (v := .ref (ad N)) C.1 C.2.1 C.2.2.2.2.1 hu tyX6 tyX6_ok nmX6 C.2.2.2.1 C.2.2.2.2.2.1 hP hD hS 183 hat rfl (4 + j) (by omega) (C.2.2.2.2.1 _ hq) (fun _ h9 => h9) hfin hty rfl rfl (by show 4 + j < 14; omega) hdg (fun H1 locs1 hP1 hD1 hS1 => ?_)
  have hce : (Sum.inl (g.1, w, Sum.inl (A N)) : va_E) = g_ce g ad w (A N) (185 + j) := by
    rw [g_ce_I]
    match j, hj with
    | 0, _ => rfl
    | 1, _ => rfl
    | 2, _ => rfl
    | 3, _ => exact absurd rfl hj3
    | 4, _ => rfl
  obtain ⟨hP2, hD2⟩ := g_putW hj hN hce hP1 hD1
  have e1 : loc.map (g_q (va_up ad (185 + j) (ad N))) = loc.map (g_q ad) := List.map_congr_left fun z hz => by
    show (z.1, g_v _ z.2) = (z.1, g_v ad z.2)
    rw [g_rok_up (by omega) hr z.2 (List.mem_map.mpr ⟨z, hz, rfl⟩)]
  have e2 : st.map (g_v (va_up ad (185 + j) (ad N))) = st.map (g_v ad) := List.map_congr_left (g_rok_up (by omega) hr2)
  have hk := kk H1 locs1 ls hP2 hD2 hS1 (by rw [e1]; exact hl)
  rw [e2] at hk
  exact hk
end GR
