theorem dX6_node_12 : decode cX6_node 12 = .ok (.aload_n 0, 1) := by decide +kernel
theorem dX6_node_13 : decode cX6_node 13 = .ok (.aload_n 0, 1) := by decide +kernel
theorem dX6_node_14 : decode cX6_node 14 = .ok (.getfield 13, 3) := by decide +kernel
theorem dX6_node_17 : decode cX6_node 17 = .ok (.invokestatic 81, 3) := by decide +kernel
theorem dX6_node_20 : decode cX6_node 20 = .ok (.putfield 13, 3) := by decide +kernel
theorem dX6_node_23 : decode cX6_node 23 = .ok (.aload_n 0, 1) := by decide +kernel
theorem dX6_node_24 : decode cX6_node 24 = .ok (.aload_n 0, 1) := by decide +kernel
theorem dX6_node_25 : decode cX6_node 25 = .ok (.getfield 16, 3) := by decide +kernel
theorem dX6_node_28 : decode cX6_node 28 = .ok (.invokestatic 81, 3) := by decide +kernel
theorem dX6_node_31 : decode cX6_node 31 = .ok (.putfield 16, 3) := by decide +kernel
theorem dX6_node_34 : decode cX6_node 34 = .ok (.aload_n 0, 1) := by decide +kernel
theorem dX6_node_35 : decode cX6_node 35 = .ok (.aload_n 0, 1) := by decide +kernel
theorem dX6_node_36 : decode cX6_node 36 = .ok (.getfield 19, 3) := by decide +kernel
theorem dX6_node_39 : decode cX6_node 39 = .ok (.invokestatic 81, 3) := by decide +kernel
theorem dX6_node_42 : decode cX6_node 42 = .ok (.putfield 19, 3) := by decide +kernel
theorem dX6_node_45 : decode cX6_node 45 = .ok (.aload_n 0, 1) := by decide +kernel
theorem dX6_node_46 : decode cX6_node 46 = .ok (.aload_n 0, 1) := by decide +kernel
theorem dX6_node_47 : decode cX6_node 47 = .ok (.getfield 26, 3) := by decide +kernel
theorem dX6_node_50 : decode cX6_node 50 = .ok (.invokestatic 81, 3) := by decide +kernel
theorem dX6_node_53 : decode cX6_node 53 = .ok (.putfield 26, 3) := by decide +kernel
theorem dX6_node_56 : decode cX6_node 56 = .ok (.iconst 2, 1) := by decide +kernel
theorem dX6_node_57 : decode cX6_node 57 = .ok (.aload_n 0, 1) := by decide +kernel
theorem dX6_node_58 : decode cX6_node 58 = .ok (.getfield 78, 3) := by decide +kernel
theorem dX6_node_61 : decode cX6_node 61 = .ok (.imul, 1) := by decide +kernel
theorem dX6_node_62 : decode cX6_node 62 = .ok (.newarray .boolean, 2) := by decide +kernel
theorem dX6_node_64 : decode cX6_node 64 = .ok (.astore 4, 2) := by decide +kernel
theorem dX6_node_66 : decode cX6_node 66 = .ok (.aload_n 0, 1) := by decide +kernel
theorem dX6_node_67 : decode cX6_node 67 = .ok (.getfield 22, 3) := by decide +kernel
theorem dX6_node_70 : decode cX6_node 70 = .ok (.iconst 0, 1) := by decide +kernel
theorem dX6_node_71 : decode cX6_node 71 = .ok (.aload 4, 2) := by decide +kernel
theorem dX6_node_73 : decode cX6_node 73 = .ok (.iconst 0, 1) := by decide +kernel
theorem dX6_node_74 : decode cX6_node 74 = .ok (.aload_n 0, 1) := by decide +kernel
theorem dX6_node_75 : decode cX6_node 75 = .ok (.getfield 78, 3) := by decide +kernel
theorem dX6_node_78 : decode cX6_node 78 = .ok (.invokestatic 54, 3) := by decide +kernel
theorem dX6_node_81 : decode cX6_node 81 = .ok (.aload_n 0, 1) := by decide +kernel
theorem dX6_node_82 : decode cX6_node 82 = .ok (.aload 4, 2) := by decide +kernel
theorem dX6_node_84 : decode cX6_node 84 = .ok (.putfield 22, 3) := by decide +kernel
def g_grok (A : gM) (cp : Nat) : Bool := decide (cp ≤ 20000) && (List.range cp).all fun i => A 188 i == 0 || A 188 i == 1
/-- the arrays that grow, of twice the places -/
def g_grown (A : gM) (cp : Nat) : gM := fun a => if 185 ≤ a ∧ a ≤ 189 then g_dbl A a cp else A a
/-- one of them is the new one -/
def g_rel (N : Nat) (ad ln : Nat → Nat) (A : gM) (cp j : Nat) (ad2 ln2 : Nat → Nat) (A2 : gM) : Prop :=
  (∀ i, i < N → i ≠ 185 + j → ad2 i = ad i ∧ ln2 i = ln i ∧ A2 i = A i) ∧ ln2 (185 + j) = 2 * cp ∧ A2 (185 + j) = g_dbl A (185 + j) cp
section GS
variable {p : Program} {l : Launch} {e : Env} {R : Room} {s : State} {m : MethodId} {args : Array Value} {below : List Frame} {meth : Method} {c : Code} {Q : State → Prop} {nL : Nat} {D : va_G} {g : gT} {As : Nat → Prop} {N : Nat} {ad ln ad0 ln0 : Nat → Nat} {A A' A1 A0 : gM} {loc loc' : List (Nat × gV)} {k n pc cp : Nat} {st : List gV} {cc : ByteArray} {own : String} {d : Nat}
theorem g_kn {k2 n2 : Nat} (h1 : k = k2) (h2 : n = n2) (kk : gJ p l e R s m args below meth c Q nL D g As N ad ln A loc k2 n2 pc st) : gJ p l e R s m args below meth c Q nL D g As N ad ln A loc k n pc st := by
  subst h1; subst h2; exact kk
theorem g_memN {A2 : gM} (h : ∀ i, i < N → A i = A2 i) (kk : gJ p l e R s m args below meth c Q nL D g As N ad ln A2 loc k n pc st) : gJ p l e R s m args below meth c Q nL D g As N ad ln A loc k n pc st := by
  have e : gw g ad ln A N = gw g ad ln A2 N := by
    unfold gw
    apply List.map_congr_left
    intro i hi
    rw [h i (List.mem_range.mp hi)]
  intro H locs ls hP hD hS hl
  rw [e] at hP hD
  exact kk H locs ls hP hD hS hl
set_option maxHeartbeats 2000000 in
theorem g_grow1 (C : gC p R s m args meth c cc RX6 nL D g As d) (j : Nat) {ix : Nat} (hj : j < 5) (hj3 : j ≠ 3) (hN : 193 ≤ N) (hw : ln (185 + j) = cp) (h4 : cp ≤ 20000) (hq : Cond.fieldLink RX6 ix (TX6 (4 + j)).1 (TX6 (4 + j)).2.1 (TX6 (4 + j)).2.2.1 ∈ gtb) (hd : 3 ≤ d) (h0 : loc[0]? = some (0, gr 183)) (hkn : k + 1 ≤ R.cells ∧ n + 2 * cp ≤ R.slots) (hr : g_rok N (loc.map Prod.snd)) (hr2 : g_rlt N (loc.map Prod.snd))
    (d0 : decode cc pc = .ok (.aload_n 0, 1)) (d1 : decode cc (pc + 1) = .ok (.aload_n 0, 1)) (d2 : decode cc (pc + 2) = .ok (.getfield ix, 3)) (d3 : decode cc (pc + 5) = .ok (.invokestatic 81, 3)) (d4 : decode cc (pc + 8) = .ok (.putfield ix, 3))
    (kk : ∀ (ad2 ln2 : Nat → Nat) (A2 : gM), g_rel N ad ln A cp j ad2 ln2 A2 → gJ p l e R s m args below meth c Q nL D g As N ad2 ln2 A2 loc (k + 1) (n + 2 * cp) (pc + 11) []) : gJ p l e R s m args below meth c Q nL D g As N ad ln A loc k n pc [] := by
  have hce : g_ce g ad (g_ln ln 183) (A 183) 183 = .inr (6, g_fs ad (A 183)) := rfl
  have hv : (g_fs ad (A 183))[4 + j]? = some (g_v ad (gr (185 + j))) := by
    match j, hj with
    | 0, _ => rfl
    | 1, _ => rfl
    | 2, _ => rfl
    | 3, _ => rfl
    | 4, _ => rfl
  have hln : g_ln ln (185 + j) = cp := by
    unfold g_ln
    rw [if_pos (Or.inl (by omega)), hw]
  have hI : g_isI (185 + j) = true := by
    match j, hj with
    | 0, _ => rfl
    | 1, _ => rfl
    | 2, _ => rfl
    | 3, _ => exact absurd rfl hj3
    | 4, _ => rfl
  refine g_aload_n C 0 d0 h0 ?_
  refine g_aload_n C 0 d1 h0 ?_
  refine g_get (v := gr (185 + j)) C 183 (4 + j) (by omega) hce rfl gu_6 (by omega) hq hv d2 ?_
  refine g_callMore C (185 + j) hN ⟨by omega, hI, hln⟩ (by omega) qs_X6_81 hd (Nat.le_of_ble_eq_true rfl) hkn hr2 (by simp [g_rlt] <;> omega) d3 (fun q => ?_)
  refine g_putG C j hj hj3 hN (g_len_made hN) hq gu_6 hr trivial d4 ?_
  refine kk _ _ _ ⟨fun i hi hne => ⟨?_, ?_, ?_⟩, if_pos rfl, ?_⟩
  · rw [show ∀ x, va_up (va_up ad N q) (185 + j) x i = va_up ad N q i from fun x => if_neg hne]; exact if_neg (by omega)
  · rw [show ∀ x, va_up (va_up ln N (2 * cp)) (185 + j) x i = va_up ln N (2 * cp) i from fun x => if_neg hne]; exact if_neg (by omega)
  · rw [g_row_n hne, g_row_n (by omega)]
  · rw [g_row_s, g_row_s]
set_option maxHeartbeats 4000000 in
/-- the row of booleans grows -/
theorem g_growZ (C : gC p R s m args meth c cX6_node RX6 5 D g As d) {x1 x2 x3 : Int32} (hN : 193 ≤ N) (hw : ln 188 = cp) (h4 : cp ≤ 20000) (hfit : ∀ i, i < cp → A 188 i = 0 ∨ A 188 i = 1) (hcN : A 183 3 = Int32.ofNat cp) (hd : 3 ≤ d) (hkn : k + 1 ≤ R.cells ∧ n + 2 * cp ≤ R.slots)
    (kk : ∀ (ad2 ln2 : Nat → Nat) (A2 : gM), g_rel N ad ln A cp 3 ad2 ln2 A2 → gJ p l e R s m args below meth c Q 5 D g As N ad2 ln2 A2 [(0, gr 183), (1, gi x1), (2, gi x2), (3, gi x3)] (k + 1) (n + 2 * cp) 87 []) : gJ p l e R s m args below meth c Q 5 D g As N ad ln A [(0, gr 183), (1, gi x1), (2, gi x2), (3, gi x3)] k n 56 [] := by
  obtain ⟨i1, i2, i3, i4⟩ := g_I2 (w := cp) (by omega)
  refine g_iconst (v := 2) C dX6_node_56 (by decide) ?_
  refine g_aload_n C 0 dX6_node_57 rfl ?_
  refine g_get (v := gi (A 183 3)) C 183 3 (by omega) rfl rfl gu_6 (by decide) qf_X6_78 rfl dX6_node_58 ?_
  refine g_imul C dX6_node_61 ?_
  rw [hcN]
  intro H locs ls hP hD hS hl
  have hx := C.1
  have hb := C.2.1
  have hown := C.2.2.2.1
  have hK := C.2.2.2.2.2.1
  have hlk : ∀ ix q, Cond.fieldLink RX6 ix (TX6 q).1 (TX6 q).2.1 (TX6 q).2.2.1 ∈ gtb → (Cond.fieldLink RX6 ix (TX6 q).1 (TX6 q).2.1 (TX6 q).2.2.1).before args s = true := fun ix q h => C.2.2.2.2.1 _ h
  refine va_newa (atype := .boolean) (ty := .boolean) (N' := 2 * cp) (a0 := (2 * cp, .inl (fun _ => 0))) hx hb (C.2.2.2.2.1 _ qa_boolean) rfl hK hP hD hS C.2.2.2.2.2.2.1 (fun _ => rfl) i1 i2 (by show 2 * cp * 1 ≤ 536870912; omega) hkn.1 hkn.2 dX6_node_62 (fun q cA H1 hK1 hP1 hD1 hS1 => ?_)
  have hcA : cA = g.2.1 := by
    have h1 : va_RA s cA .boolean := (hK1.2 4 (cA, .boolean) rfl).2
    have h2 : va_RA s g.2.1 .boolean := (hK1.2 1 (g.2.1, .boolean) rfl).2
    exact Option.some.inj (h1.symm.trans h2)
  subst hcA
  clear hP hD hS hK1
  have a183 : (gw g ad ln A N ++ [(q, (.inl (g.2.1, 2 * cp, .inl (fun _ => 0)) : va_E))])[183]? = some (ad 183, .inr (6, g_fs ad (A 183))) := by
    rw [List.getElem?_append_left (by rw [gw_len]; omega), gw_at (by omega)]; rfl
  have a188 : (gw g ad ln A N ++ [(q, (.inl (g.2.1, 2 * cp, .inl (fun _ => 0)) : va_E))])[188]? = some (ad 188, .inl (g.2.1, cp, .inl (A 188))) := by
    rw [List.getElem?_append_left (by rw [gw_len]; omega), gw_at (by omega), ← hw]; rfl
  have aN : (gw g ad ln A N ++ [(q, (.inl (g.2.1, 2 * cp, .inl (fun _ => 0)) : va_E))])[N]? = some (q, .inl (g.2.1, 2 * cp, .inl (fun _ => 0))) := by
    rw [List.getElem?_append_right (by rw [gw_len]; exact Nat.le_refl _), gw_len, Nat.sub_self]; rfl
  refine lv_astore hx hb dX6_node_64 hl (by decide) rfl (fun ls hl => ?_)
  refine lv_aload_n hx hb dX6_node_66 rfl (lv_at hl 1 rfl) ?_
  refine va_get (v := .ref (ad 188)) hx hb C.2.2.2.2.1 gu_6 hown hK hP1 183 a183 rfl 7 (by decide) (hlk 22 7 qf_X6_22) (fun _ h9 => h9) rfl dX6_node_67 ?_
  refine lv_iconst (v := 0) hx hb dX6_node_70 (by decide) ?_
  refine lv_aload hx hb dX6_node_71 (lv_at hl 0 rfl) ?_
  refine lv_iconst (v := 0) hx hb dX6_node_73 (by decide) ?_
  refine lv_aload_n hx hb dX6_node_74 rfl (lv_at hl 1 rfl) ?_
  refine va_get (v := .int (A 183 3)) hx hb C.2.2.2.2.1 gu_6 hown hK hP1 183 a183 rfl 3 (by decide) (hlk 78 3 qf_X6_78) (fun _ h9 => h9) rfl dX6_node_75 ?_
  rw [hcN]
  refine va_copyi (ty := .boolean) (f := A 188) (g := fun _ => 0) (n0 := cp) (n1 := 2 * cp) hx hb (by rw [C.2.2.1]; exact hl.1.symm) hown (C.2.2.2.2.1 _ qsC_X6_54.1) (C.2.2.2.2.1 _ qsC_X6_54.2.1) (C.2.2.2.2.1 _ qsC_X6_54.2.2.1) (C.2.2.2.2.1 _ qsC_X6_54.2.2.2) hK hP1 hD1 hS1 188 N 1 1 a188 aN rfl rfl rfl (by decide) (by decide) i3 (by rw [i4]; exact Nat.le_of_eq (Nat.zero_add _)) (by rw [i4]; show 0 + cp ≤ 2 * cp; omega) (fun i hi => ?_) (by have := C.2.2.2.2.2.2.2.2.1; omega) ?_ dX6_node_78 (fun H2 locs2 hP2 hD2 hS2 => ?_)
  · rw [i4] at hi
    show fits .boolean (.int (A 188 (0 + i))) = true
    rw [Nat.zero_add]
    rcases hfit i hi with h | h <;> rw [h] <;> rfl
  · have := C.2.2.2.2.2.2.2.2.2
    have h6 : nativeFrameWords "java/lang/System" "arraycopy" 5 = 7 := by decide +kernel
    rw [h6]
    show 0 + (7 + 11) ≤ R.locals
    omega
  · clear hP1 hD1 hS1 a183 a188 aN
    have ef : va_cpy (A 188) (fun _ => 0) (0 : Int32).toNatClampNeg (0 : Int32).toNatClampNeg (Int32.ofNat cp).toNatClampNeg = g_dbl A 188 cp := by
      rw [i4]
      funext t
      show va_cpy (A 188) (fun _ => 0) 0 0 cp t = g_dbl A 188 cp t
      unfold g_dbl
      by_cases q : t < cp
      · rw [if_pos q, sb_cpy0 q]
      · rw [if_neg q, pk_cpy_out (Or.inr (by omega))]
    rw [ef] at hP2 hD2
    have es : (gw g ad ln A N ++ [(q, (.inl (g.2.1, 2 * cp, .inl (fun _ => 0)) : va_E))]).set N (q, (.inl (g.2.1, 2 * cp, .inl (g_dbl A 188 cp)) : va_E)) = gw g ad ln A N ++ [(q, (.inl (g.2.1, 2 * cp, .inl (g_dbl A 188 cp)) : va_E))] := by
      rw [List.set_append_right _ _ (by rw [gw_len]; exact Nat.le_refl _), gw_len, Nat.sub_self]; rfl
    rw [es] at hP2 hD2
    have a183 : (gw g ad ln A N ++ [(q, (.inl (g.2.1, 2 * cp, .inl (g_dbl A 188 cp)) : va_E))])[183]? = some (ad 183, .inr (6, g_fs ad (A 183))) := by
      rw [List.getElem?_append_left (by rw [gw_len]; omega), gw_at (by omega)]; rfl
    refine lv_aload_n hx hb dX6_node_81 rfl (lv_at hl 1 rfl) ?_
    refine lv_aload hx hb dX6_node_82 (lv_at hl 0 rfl) ?_
    refine va_put (v := .ref q) hx hb C.2.2.2.2.1 gu_6 tyX6 tyX6_ok nmX6 hown hK hP2 hD2 hS2 183 a183 rfl 7 (by decide) (hlk 22 7 qf_X6_22) (fun _ h9 => h9) rfl (show parseFieldDescriptor (TX6 7).2.2.1 = some (.array .boolean) by decide +kernel) rfl rfl (Nat.le_of_ble_eq_true rfl) dX6_node_84 (fun H3 locs3 hP3 hD3 hS3 => ?_)
    obtain ⟨hP4, hD4⟩ := g_putW (j := 3) (by omega) hN rfl hP3 hD3
    have hr : g_rok N ([(0, gr 183), (1, gi x1), (2, gi x2), (3, gi x3)].map Prod.snd) := by simp [g_rok]; omega
    refine kk _ _ _ ⟨fun i hi hne => ⟨if_neg hne, if_neg hne, g_row_n hne⟩, if_pos rfl, g_row_s⟩ H3 locs3 ls hP4 hD4 hS3 ?_
    have e1 : [(0, gr 183), (1, gi x1), (2, gi x2), (3, gi x3)].map (g_q (va_up ad 188 q)) = [(0, gr 183), (1, gi x1), (2, gi x2), (3, gi x3)].map (g_q ad) := List.map_congr_left fun z hz => by
      show (z.1, g_v _ z.2) = (z.1, g_v ad z.2)
      rw [g_rok_up (by omega) hr z.2 (List.mem_map.mpr ⟨z, hz, rfl⟩)]
    have e4 : lv_has ls 5 ([(0, gr 183), (1, gi x1), (2, gi x2), (3, gi x3)].map (g_q (va_up ad 188 q))) := by
      rw [e1]
      exact lv_sub hl [1, 2, 3, 4] rfl
    exact e4
set_option maxHeartbeats 4000000 in
/-- node's arrays grow -/
theorem g_grow (hN : 193 ≤ N) (C : gC p R s m args meth c cX6_node RX6 5 D g As d) {x1 x2 x3 : Int32} (hch : g_chg N ad0 ln0 ad ln cp) (hg : g_grok A cp = true) (hd : 3 ≤ d) (hcN : A 183 3 = Int32.ofNat cp) (hkn : k + 5 ≤ R.cells ∧ n + 10 * cp ≤ R.slots)
    (kk : ∀ (ad2 ln2 : Nat → Nat), g_chg N ad0 ln0 ad2 ln2 (2 * cp) → gJ p l e R s m args below meth c Q 5 D g As N ad2 ln2 (g_grown A cp) [(0, gr 183), (1, gi x1), (2, gi x2), (3, gi x3)] (k + 5) (n + 10 * cp) 87 []) : gJ p l e R s m args below meth c Q 5 D g As N ad ln A [(0, gr 183), (1, gi x1), (2, gi x2), (3, gi x3)] k n 12 [] := by
  have hg1 : cp ≤ 20000 ∧ ∀ i, i < cp → A 188 i = 0 ∨ A 188 i = 1 := by
    simpa [g_grok] using hg
  obtain ⟨h4, hfit⟩ := hg1
  obtain ⟨c1, c2, c3, c4, c5⟩ := hch.2
  have hr : g_rok N ([(0, gr 183), (1, gi x1), (2, gi x2), (3, gi x3)].map Prod.snd) := by simp [g_rok]; omega
  have hr2 : g_rlt N ([(0, gr 183), (1, gi x1), (2, gi x2), (3, gi x3)].map Prod.snd) := by simp [g_rlt]; omega
  refine g_grow1 C 0 (by omega) (by omega) hN c1 h4 qf_X6_13 hd rfl ⟨by omega, by omega⟩ hr hr2 dX6_node_12 dX6_node_13 dX6_node_14 dX6_node_17 dX6_node_20 (fun ad1 ln1 A1 r1 => ?_)
  refine g_grow1 C 1 (by omega) (by omega) hN ((r1.1 186 (by omega) (by omega)).2.1.trans c2) h4 qf_X6_16 hd rfl ⟨by omega, by omega⟩ hr hr2 dX6_node_23 dX6_node_24 dX6_node_25 dX6_node_28 dX6_node_31 (fun ad2 ln2 A2 r2 => ?_)
  refine g_grow1 C 2 (by omega) (by omega) hN (((r2.1 187 (by omega) (by omega)).2.1.trans (r1.1 187 (by omega) (by omega)).2.1).trans c3) h4 qf_X6_19 hd rfl ⟨by omega, by omega⟩ hr hr2 dX6_node_34 dX6_node_35 dX6_node_36 dX6_node_39 dX6_node_42 (fun ad3 ln3 A3 r3 => ?_)
  refine g_grow1 C 4 (by omega) (by omega) hN ((((r3.1 189 (by omega) (by omega)).2.1.trans (r2.1 189 (by omega) (by omega)).2.1).trans (r1.1 189 (by omega) (by omega)).2.1).trans c5) h4 qf_X6_26 hd rfl ⟨by omega, by omega⟩ hr hr2 dX6_node_45 dX6_node_46 dX6_node_47 dX6_node_50 dX6_node_53 (fun ad4 ln4 A4 r4 => ?_)
  have eA : ∀ i, i < N → i ≠ 185 → i ≠ 186 → i ≠ 187 → i ≠ 189 → A4 i = A i := fun i hi n1 n2 n3 n4 => (((r4.1 i hi n4).2.2.trans (r3.1 i hi n3).2.2).trans (r2.1 i hi n2).2.2).trans (r1.1 i hi n1).2.2
  have eL : ∀ i, i < N → i ≠ 185 → i ≠ 186 → i ≠ 187 → i ≠ 189 → ad4 i = ad i ∧ ln4 i = ln i := fun i hi n1 n2 n3 n4 => ⟨(((r4.1 i hi n4).1.trans (r3.1 i hi n3).1).trans (r2.1 i hi n2).1).trans (r1.1 i hi n1).1, (((r4.1 i hi n4).2.1.trans (r3.1 i hi n3).2.1).trans (r2.1 i hi n2).2.1).trans (r1.1 i hi n1).2.1⟩
  have e188 := eA 188 (by omega) (by omega) (by omega) (by omega) (by omega)
  have e183 := eA 183 (by omega) (by omega) (by omega) (by omega) (by omega)
  refine g_growZ C hN ((eL 188 (by omega) (by omega) (by omega) (by omega) (by omega)).2.trans c4) h4 (by rw [e188]; exact hfit) (by rw [e183]; exact hcN) hd ⟨by omega, by omega⟩ (fun ad5 ln5 A5 r5 => ?_)
  refine g_kn (k2 := k + 5) (n2 := n + 10 * cp) (by omega) (by omega) ?_
  have f185 : A5 185 = g_dbl A 185 cp := by
    rw [(r5.1 185 (by omega) (by omega)).2.2, (r4.1 185 (by omega) (by omega)).2.2, (r3.1 185 (by omega) (by omega)).2.2, (r2.1 185 (by omega) (by omega)).2.2, r1.2.2]
  have f186 : A5 186 = g_dbl A 186 cp := by
    rw [(r5.1 186 (by omega) (by omega)).2.2, (r4.1 186 (by omega) (by omega)).2.2, (r3.1 186 (by omega) (by omega)).2.2, r2.2.2]
    show g_dbl A1 186 cp = _
    unfold g_dbl
    rw [(r1.1 186 (by omega) (by omega)).2.2]
  have f187 : A5 187 = g_dbl A 187 cp := by
    rw [(r5.1 187 (by omega) (by omega)).2.2, (r4.1 187 (by omega) (by omega)).2.2, r3.2.2]
    show g_dbl A2 187 cp = _
    unfold g_dbl
    rw [(r2.1 187 (by omega) (by omega)).2.2, (r1.1 187 (by omega) (by omega)).2.2]
  have f189 : A5 189 = g_dbl A 189 cp := by
    rw [(r5.1 189 (by omega) (by omega)).2.2, r4.2.2]
    show g_dbl A3 189 cp = _
    unfold g_dbl
    rw [(r3.1 189 (by omega) (by omega)).2.2, (r2.1 189 (by omega) (by omega)).2.2, (r1.1 189 (by omega) (by omega)).2.2]
  have f188 : A5 188 = g_dbl A 188 cp := by
    rw [r5.2.2]
    show g_dbl A4 188 cp = _
    unfold g_dbl
    rw [e188]
  refine g_memN (A2 := g_grown A cp) (fun i hi => ?_) (kk ad5 ln5 ⟨fun i hi hr => ?_, ?_, ?_, ?_, r5.2.1, ?_⟩)
  · unfold g_grown
    by_cases q : 185 ≤ i ∧ i ≤ 189
    · rw [if_pos q]
      rcases (show i = 185 ∨ i = 186 ∨ i = 187 ∨ i = 188 ∨ i = 189 by omega) with rfl | rfl | rfl | rfl | rfl <;> assumption
    · rw [if_neg q, (r5.1 i hi (by omega)).2.2]
      exact eA i hi (by omega) (by omega) (by omega) (by omega)
  · have h5 := r5.1 i hi (by omega)
    have h6 := eL i hi (by omega) (by omega) (by omega) (by omega)
    have h7 := hch.1 i hi hr
    exact ⟨(h5.1.trans h6.1).trans h7.1, (h5.2.1.trans h6.2).trans h7.2⟩
  · rw [(r5.1 185 (by omega) (by omega)).2.1, (r4.1 185 (by omega) (by omega)).2.1, (r3.1 185 (by omega) (by omega)).2.1, (r2.1 185 (by omega) (by omega)).2.1, r1.2.1]
  · rw [(r5.1 186 (by omega) (by omega)).2.1, (r4.1 186 (by omega) (by omega)).2.1, (r3.1 186 (by omega) (by omega)).2.1, r2.2.1]
  · rw [(r5.1 187 (by omega) (by omega)).2.1, (r4.1 187 (by omega) (by omega)).2.1, r3.2.1]
  · rw [(r5.1 189 (by omega) (by omega)).2.1, r4.2.1]
end GS
