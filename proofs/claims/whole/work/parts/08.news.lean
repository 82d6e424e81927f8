/-! METHODS THAT MAKE ARRAYS (the reference): cells 193 on are new ones, 185 to 189 are the arrays that grow (all of cp places) -/
def g_cap (ln : Nat → Nat) (cp : Nat) : Prop := ln 185 = cp ∧ ln 186 = cp ∧ ln 187 = cp ∧ ln 188 = cp ∧ ln 189 = cp
/-- what a call may have changed of addresses and lengths -/
def g_chg (N : Nat) (ad ln ad' ln' : Nat → Nat) (cp' : Nat) : Prop := (∀ i, i < N → (i < 185 ∨ 190 ≤ i) → ad' i = ad i ∧ ln' i = ln i) ∧ g_cap ln' cp'
theorem g_chg.rf {N : Nat} {ad ln : Nat → Nat} {cp : Nat} (h : g_cap ln cp) : g_chg N ad ln ad ln cp := ⟨fun _ _ _ => ⟨rfl, rfl⟩, h⟩
theorem g_chg.trans {N N1 : Nat} {ad ln ad1 ln1 ad2 ln2 : Nat → Nat} {cp1 cp2 : Nat} (hN : N ≤ N1) (h : g_chg N ad ln ad1 ln1 cp1) (h2 : g_chg N1 ad1 ln1 ad2 ln2 cp2) : g_chg N ad ln ad2 ln2 cp2 :=
  ⟨fun i hi hr => ⟨((h2.1 i (by omega) hr).1).trans (h.1 i hi hr).1, ((h2.1 i (by omega) hr).2).trans (h.1 i hi hr).2⟩, h2.2⟩
/-- the references among the values are to cells that no call moves -/
def g_rok (N : Nat) : List gV → Prop
  | [] => True
  | .inl i :: r => (i < N ∧ (i < 185 ∨ 190 ≤ i)) ∧ g_rok N r
  | .inr _ :: r => g_rok N r
theorem g_rok_v {N : Nat} {ad ln ad' ln' : Nat → Nat} {cp' : Nat} (h : g_chg N ad ln ad' ln' cp') : ∀ {vs : List gV}, g_rok N vs → ∀ v ∈ vs, g_v ad' v = g_v ad v
  | [], _, v, hv => by cases hv
  | .inl i :: r, hr, v, hv => by
    rcases List.mem_cons.mp hv with rfl | hv
    · show Value.ref (ad' i) = .ref (ad i)
      rw [(h.1 i hr.1.1 hr.1.2).1]
    · exact g_rok_v h hr.2 v hv
  | .inr x :: r, hr, v, hv => by
    rcases List.mem_cons.mp hv with rfl | hv
    · rfl
    · exact g_rok_v (vs := r) h hr v hv
/-- the references among the values are below N -/
def g_rlt (N : Nat) : List gV → Prop
  | [] => True
  | .inl i :: r => i < N ∧ g_rlt N r
  | .inr _ :: r => g_rlt N r
theorem g_rok_st {N : Nat} {ad ln ad' ln' : Nat → Nat} {cp' : Nat} (h : g_chg N ad ln ad' ln' cp') {vs : List gV} (hr : g_rok N vs) : vs.map (g_v ad') = vs.map (g_v ad) := List.map_congr_left (g_rok_v h hr)
theorem g_rok_loc {N : Nat} {ad ln ad' ln' : Nat → Nat} {cp' : Nat} (h : g_chg N ad ln ad' ln' cp') {loc : List (Nat × gV)} (hr : g_rok N (loc.map Prod.snd)) : loc.map (g_q ad') = loc.map (g_q ad) :=
  List.map_congr_left fun q hq => by
    show (q.1, g_v ad' q.2) = (q.1, g_v ad q.2)
    rw [g_rok_v h hr q.2 (List.mem_map.mpr ⟨q, hq, rfl⟩)]
theorem g_isI_big {i : Nat} (h : 193 ≤ i) : g_isI i = true := by
  have : ¬ (i = 129 ∨ i = 183 ∨ i = 188 ∨ i = 192 ∨ i = 0 ∨ i = 1 ∨ i = 43 ∨ i = 128 ∨ i = 138 ∨ i = 2 ∨ i = 44 ∨ i = 85 ∨ i = 140) := by omega
  simpa [g_isI] using this
theorem g_ln_big {ln : Nat → Nat} {i : Nat} (h : 193 ≤ i) : g_ln ln i = ln i := if_pos (Or.inr h)
theorem g_out_ad {ad ad' : Nat → Nat} {b : Nat} (hb : b ≤ 150) (h : ∀ i, i < 193 → ad' i = ad i) : g_out ad' b = g_out ad b := by
  unfold g_out
  congr 5
  funext j
  by_cases q : j < 40
  · rw [if_pos q, if_pos q, h _ (by omega)]
  · rw [if_neg q, if_neg q]
theorem g_ce_ad {g : gT} {ad ad' : Nat → Nat} {n : Nat} {f : Nat → Int32} {i : Nat} (h : ∀ i, i < 193 → ad' i = ad i) : g_ce g ad' n f i = g_ce g ad n f i := by
  unfold g_ce
  rw [g_out_ad (b := 3) (by omega) h, g_out_ad (b := 45) (by omega) h, g_out_ad (b := 86) (by omega) h, g_out_ad (b := 141) (by omega) h]
  rw [h 130 (by omega), h 131 (by omega), h 132 (by omega), h 133 (by omega), h 134 (by omega), h 135 (by omega), h 136 (by omega), h 137 (by omega), h 184 (by omega), h 185 (by omega), h 186 (by omega), h 187 (by omega), h 188 (by omega), h 189 (by omega), h 190 (by omega), h 191 (by omega), h 1 (by omega), h 43 (by omega), h 128 (by omega), h 2 (by omega), h 44 (by omega), h 85 (by omega), h 126 (by omega), h 127 (by omega), h 129 (by omega), h 138 (by omega), h 182 (by omega), h 139 (by omega), h 140 (by omega), h 181 (by omega)]
theorem gw_len {g : gT} {ad ln : Nat → Nat} {A : gM} {N : Nat} : (gw g ad ln A N).length = N := by simp [gw]
theorem gw_push {g : gT} {ad ln : Nat → Nat} {A : gM} {N q w : Nat} {f : Nat → Int32} (hN : 193 ≤ N) : gw g (va_up ad N q) (va_up ln N w) (g_row A N f) (N + 1) = gw g ad ln A N ++ [(q, .inl (g.1, w, .inl f))] := by
  apply List.ext_getElem?
  intro k
  have hup : ∀ i, i < 193 → va_up ad N q i = ad i := fun i hi => if_neg (by omega)
  by_cases hk : k < N
  · rw [gw_at (by omega), List.getElem?_append_left (by rw [gw_len]; exact hk), gw_at hk, g_ce_ad hup, g_row_n (by omega)]
    have e1 : va_up ad N q k = ad k := if_neg (by omega)
    have e2 : g_ln (va_up ln N w) k = g_ln ln k := by
      unfold g_ln
      rw [show va_up ln N w k = ln k from if_neg (by omega)]
    rw [e1, e2]
  · by_cases e : k = N
    · subst e
      rw [gw_at (by omega), List.getElem?_append_right (by rw [gw_len]; exact Nat.le_refl _), gw_len, Nat.sub_self, g_row_s, g_ce_I (g_isI_big hN), g_ln_big hN]
      show some (va_up ad k q k, _) = some _
      rw [show va_up ad k q k = q from if_pos rfl, show va_up ln k w k = w from if_pos rfl]
    · rw [List.getElem?_eq_none_iff.mpr (by rw [gw_len]; omega), List.getElem?_eq_none_iff.mpr (by rw [List.length_append, gw_len]; simp; omega)]
section GA
variable {p : Program} {l : Launch} {e : Env} {R : Room} {s : State} {m : MethodId} {args : Array Value} {below : List Frame} {meth : Method} {c : Code} {Q : State → Prop} {nL : Nat} {D : va_G} {g : gT} {As : Nat → Prop} {N : Nat} {ad ln : Nat → Nat} {A A' A1 A0 : gM} {loc loc' : List (Nat × gV)} {k n pc : Nat} {st : List gV} {cc : ByteArray} {own : String} {d mc : Nat}
theorem g_K_cls {c1 : ClassId} {U : State} {t0 : Nat} {tt : FieldType} (hK : va_K D vwCl (g_tys g) U) (ht : (g_tys g)[t0]? = some (c1, tt)) (hp : ∀ C, tt ≠ .object C) : U.vm.findClass ("[" ++ tt.toString) = some c1 := by
  have h := (hK.2 t0 _ ht).2
  unfold va_RA at h
  cases tt <;> first | exact h | exact absurd rfl (hp _)
/-- new int[..]: the new cell is number N -/
theorem g_newI (C : gC p R s m args meth c cc own nL D g As d) (hN : 193 ≤ N) {x : Int32} {w : Nat} (hw : Cond.arrayClass .int ∈ gtb) (hx : ¬ x < 0) (hxw : x.toNatClampNeg = w) (hb : w ≤ 100000) (hkn : k + 1 ≤ R.cells ∧ n + w ≤ R.slots) (hr : g_rlt N (loc.map Prod.snd)) (hr2 : g_rlt N st) (hdg : decode cc pc = .ok (.newarray .int, 2))
    (kk : ∀ q : Nat, gJ p l e R s m args below meth c Q nL D g As (N + 1) (va_up ad N q) (va_up ln N w) (g_row A N (fun _ => 0)) loc (k + 1) (n + w) (pc + 2) (gr N :: st)) : gJ p l e R s m args below meth c Q nL D g As N ad ln A loc k n pc (gi x :: st) := fun H locs ls hP hD hS hl => by
  refine va_newa (atype := .int) (ty := .int) (N' := w) (a0 := (w, .inl (fun _ => 0))) C.1 C.2.1 (C.2.2.2.2.1 _ hw) rfl C.2.2.2.2.2.1 hP hD hS C.2.2.2.2.2.2.1 (fun _ => rfl) hx hxw (by show w * 4 ≤ 536870912; omega) hkn.1 hkn.2 hdg (fun q cA H1 hK1 hP1 hD1 hS1 => ?_)
  have hcA : cA = g.1 := by
    have h1 : va_RA s cA .int := (hK1.2 4 (cA, .int) rfl).2
    have h2 : va_RA s g.1 .int := (hK1.2 0 (g.1, .int) rfl).2
    exact Option.some.inj (h1.symm.trans h2)
  subst hcA
  rw [← gw_push hN] at hP1 hD1
  have hch : g_chg N ad ln (va_up ad N q) (va_up ln N w) (va_up ln N w 185) → True := fun _ => trivial
  have hv : ∀ {vs : List gV}, g_rlt N vs → ∀ v ∈ vs, g_v (va_up ad N q) v = g_v ad v := by
    intro vs
    induction vs with
    | nil => intro _ v hv; cases hv
    | cons a r ih =>
      intro h v hv
      cases a with
      | inl i =>
        rcases List.mem_cons.mp hv with rfl | hv
        · show Value.ref (va_up ad N q i) = .ref (ad i)
          rw [show va_up ad N q i = ad i from if_neg (by have := h.1; omega)]
        · exact ih h.2 v hv
      | inr y =>
        rcases List.mem_cons.mp hv with rfl | hv
        · rfl
        · exact ih h v hv
  have e1 : loc.map (g_q (va_up ad N q)) = loc.map (g_q ad) := List.map_congr_left fun z hz => by
    show (z.1, g_v _ z.2) = (z.1, g_v ad z.2)
    rw [hv hr z.2 (List.mem_map.mpr ⟨z, hz, rfl⟩)]
  have e2 : st.map (g_v (va_up ad N q)) = st.map (g_v ad) := List.map_congr_left (hv hr2)
  have hk := kk q H1 locs ls hP1 hD1 hS1 (by rw [e1]; exact hl)
  have e3 : (gr N :: st).map (g_v (va_up ad N q)) = .ref q :: st.map (g_v ad) := by
    rw [List.map_cons, e2]
    show Value.ref (va_up ad N q N) :: _ = _
    rw [show va_up ad N q N = q from if_pos rfl]
  rw [e3] at hk
  exact hk
/-- the last new cell is let go -/
theorem g_drop (kk : gJ p l e R s m args below meth c Q nL D g As N ad ln A loc k n pc st) : gJ p l e R s m args below meth c Q nL D g As (N + 1) ad ln A loc k n pc st := fun H locs ls hP hD hS hl => by
  have hs : ∀ (k : Nat) (q : Nat × va_E), (gw g ad ln A N)[k]? = some q → (gw g ad ln A (N + 1))[k]? = some q := fun k q h => by
    obtain ⟨h1, rfl⟩ := gw_of h
    rw [gw_at (by omega)]
  exact kk H locs ls (fun k q h => hP k q (hs k q h)) ⟨fun i j p q hi hj he => hD.1 i j p q (hs i p hi) (hs j q hj) he, fun k q h => hD.2 k q (hs k q h)⟩ hS hl
/-- the words of System.arraycopy -/
def g_siteC (own : String) (ix : Nat) : Prop := Cond.methodLink own ix arraycopyName ∈ gtb ∧ Cond.native arraycopyName ∈ gtb ∧ Cond.static arraycopyName ∈ gtb ∧ Cond.initialized "java/lang/System" ∈ gtb
/-- arraycopy between int arrays -/
theorem g_copy (C : gC p R s m args meth c cc own nL D g As d) (i j : Nat) {ni nj ix : Nat} {sp dp x : Int32} (hs : g_siteC own ix) (hi : i < N) (hI : g_isI i = true) (hn : g_ln ln i = ni) (hj : j < N) (hJ : g_isI j = true) (hm : g_ln ln j = nj) (h1 : ¬ sp < 0) (h2 : ¬ dp < 0) (h3 : ¬ x < 0) (h4 : sp.toNatClampNeg + x.toNatClampNeg ≤ ni) (h5 : dp.toNatClampNeg + x.toNatClampNeg ≤ nj) (hd : 1 ≤ d) (hcat : (st.map g_cat).sum ≤ 8) (hA : g_row A j (va_cpy (A i) (A j) sp.toNatClampNeg dp.toNatClampNeg x.toNatClampNeg) = A') (hdg : decode cc pc = .ok (.invokestatic ix, 3)) (kk : gJ p l e R s m args below meth c Q nL D g As N ad ln A' loc k n (pc + 3) st) : gJ p l e R s m args below meth c Q nL D g As N ad ln A loc k n pc (gi x :: gi dp :: gr j :: gi sp :: gr i :: st) := fun H locs ls hP hD hS hl => by
  refine va_copyi (ty := .int) (f := A i) (g := A j) (n0 := ni) (n1 := nj) C.1 C.2.1 (by rw [C.2.2.1]; exact hl.1.symm) C.2.2.2.1 (C.2.2.2.2.1 _ hs.1) (C.2.2.2.2.1 _ hs.2.1) (C.2.2.2.2.1 _ hs.2.2.1) (C.2.2.2.2.1 _ hs.2.2.2) C.2.2.2.2.2.1 hP hD hS i j 0 0 (by rw [gw_at hi, g_ce_I hI, hn]) (by rw [gw_at hj, g_ce_I hJ, hm]) rfl rfl rfl h1 h2 h3 h4 h5 (fun _ _ => rfl) (by have := C.2.2.2.2.2.2.2.2.1; omega) ?_ hdg (fun H1 locs1 hP1 hD1 hS1 => ?_)
  · have h1 := g_lv (ad := ad) hcat
    have := C.2.2.2.2.2.2.2.2.2
    have h6 : nativeFrameWords "java/lang/System" "arraycopy" 5 = 7 := by decide +kernel
    rw [h6]; omega
  · have e : (gw g ad ln A N).set j (ad j, .inl (g.1, nj, .inl (va_cpy (A i) (A j) sp.toNatClampNeg dp.toNatClampNeg x.toNatClampNeg))) = gw g ad ln A' N := by
      rw [← hA, ← gw_set hj, g_ce_I hJ, hm]
    rw [e] at hP1 hD1
    exact kk H1 locs1 ls hP1 hD1 hS1 hl
end GA
