/-! THE LAW'S OWN METHODS: rows for arrays of rows, for the script, for calls; contracts of methods that make cells: N cells before, N1 behind -/
theorem g_roomx {d d' mL k n : Nat} {R : Room} (h1 : d ≤ R.frames ∧ 40 * d ≤ R.locals) (h2 : d' + 1 ≤ d) (h3 : mL ≤ 20) : (g_rmx d' k n).frames + 1 ≤ R.frames ∧ 8 + (mL + 11) + (g_rmx d' k n).locals ≤ R.locals := g_room h1 h2 h3
/-- references among values are below N -/
def g_rlt (N : Nat) : List gV → Prop
  | [] => True
  | .inl i :: r => i < N ∧ g_rlt N r
  | .inr _ :: r => g_rlt N r
theorem g_rlt_v {N : Nat} {ad ad' : Nat → Nat} (h : ∀ i, i < N → ad' i = ad i) : ∀ {vs : List gV}, g_rlt N vs → ∀ v ∈ vs, g_v ad' v = g_v ad v
  | [], _, v, hv => by cases hv
  | .inl i :: r, hr, v, hv => by
    rcases List.mem_cons.mp hv with rfl | hv
    · show Value.ref (ad' i) = .ref (ad i)
      rw [h i hr.1]
    · exact g_rlt_v h hr.2 v hv
  | .inr x :: r, hr, v, hv => by
    rcases List.mem_cons.mp hv with rfl | hv
    · rfl
    · exact g_rlt_v (vs := r) h hr v hv
theorem g_rlt_st {N : Nat} {ad ad' : Nat → Nat} (h : ∀ i, i < N → ad' i = ad i) {vs : List gV} (hr : g_rlt N vs) : vs.map (g_v ad') = vs.map (g_v ad) := List.map_congr_left (g_rlt_v h hr)
theorem g_rlt_loc {N : Nat} {ad ad' : Nat → Nat} (h : ∀ i, i < N → ad' i = ad i) {loc : List (Nat × gV)} (hr : g_rlt N (loc.map Prod.snd)) : loc.map (g_q ad') = loc.map (g_q ad) :=
  List.map_congr_left fun q hq => by
    show (q.1, g_v ad' q.2) = (q.1, g_v ad q.2)
    rw [g_rlt_v h hr q.2 (List.mem_map.mpr ⟨q, hq, rfl⟩)]
theorem g_up_o {ad : Nat → Nat} {N q : Nat} : ∀ i, i < N → va_up ad N q i = ad i := fun i hi => if_neg (by omega)
theorem g_out_ad {ad ad' : Nat → Nat} {b : Nat} (hb : b ≤ 142) (h : ∀ i, i < 183 → ad' i = ad i) : g_out ad' b = g_out ad b := by
  unfold g_out
  congr 5
  funext j
  by_cases q : j < 40
  · rw [if_pos q, if_pos q, h _ (by omega)]
  · rw [if_neg q, if_neg q]
theorem g_rf_ad {ad ad' : Nat → Nat} {f : Nat → Int32} {i : Nat} (h : ∀ j, j < i → ad' j = ad j) : g_rf ad' f i = g_rf ad f i := by
  funext j
  unfold g_rf
  by_cases q : f j < 0 ∨ i ≤ (f j).toNatClampNeg
  · rw [if_pos q, if_pos q]
  · rw [if_neg q, if_neg q, h _ (by omega)]
theorem g_ce_ad {g : gT} {ad ad' : Nat → Nat} {n N : Nat} {f : Nat → Int32} {i : Nat} (hN : 183 ≤ N) (hi : i < N) (h : ∀ i, i < N → ad' i = ad i) : g_ce g ad' n f i = g_ce g ad n f i := by
  have h1 : ∀ i, i < 183 → ad' i = ad i := fun i hi => h i (by omega)
  unfold g_ce
  rw [g_out_ad (b := 3) (by omega) h1, g_out_ad (b := 45) (by omega) h1, g_out_ad (b := 86) (by omega) h1, g_out_ad (b := 141) (by omega) h1, g_rf_ad (ad := ad) (ad' := ad') (f := f) (i := i) fun j hj => h j (by omega)]
  rw [h 130 (by omega), h 131 (by omega), h 132 (by omega), h 133 (by omega), h 134 (by omega), h 135 (by omega), h 136 (by omega), h 137 (by omega), h 1 (by omega), h 43 (by omega), h 128 (by omega), h 2 (by omega), h 44 (by omega), h 85 (by omega), h 126 (by omega), h 127 (by omega), h 129 (by omega), h 138 (by omega), h 182 (by omega), h 139 (by omega), h 140 (by omega), h 181 (by omega)]
theorem gw_len {g : gT} {ad ln : Nat → Nat} {A : gM} {N : Nat} : (gw g ad ln A N).length = N := by simp [gw]
theorem gw_push {g : gT} {ad ln : Nat → Nat} {A : gM} {N q w : Nat} {f : Nat → Int32} (hN : 183 ≤ N) : gw g (va_up ad N q) (va_up ln N w) (g_row A N f) (N + 1) = gw g ad ln A N ++ [(q, g_ce g (va_up ad N q) w f N)] := by
  apply List.ext_getElem?
  intro k
  by_cases hk : k < N
  · rw [gw_at (by omega), List.getElem?_append_left (by rw [gw_len]; exact hk), gw_at hk, g_ce_ad hN hk g_up_o, g_row_n (by omega)]
    have e1 : va_up ad N q k = ad k := if_neg (by omega)
    have e2 : g_ln (va_up ln N w) k = g_ln ln k := by
      unfold g_ln
      rw [show va_up ln N w k = ln k from if_neg (by omega)]
    rw [e1, e2]
  · by_cases e : k = N
    · subst e
      rw [gw_at (by omega), List.getElem?_append_right (by rw [gw_len]; exact Nat.le_refl _), gw_len, Nat.sub_self, g_row_s, g_ln_b hN]
      show some (va_up ad k q k, _) = some _
      rw [show va_up ad k q k = q from if_pos rfl, show va_up ln k w k = w from if_pos rfl]
    · rw [List.getElem?_eq_none_iff.mpr (by rw [gw_len]; omega), List.getElem?_eq_none_iff.mpr (by rw [List.length_append, gw_len]; simp; omega)]
/-- the script, outside As -/
def gSX (b L : Nat) (xs : Nat → Int32) (As : Nat → Prop) (U : State) (H : Heap) : Prop := va_X b L xs U H ∧ b < H.size ∧ ¬ As b
/-- what stays besides, in the law's own methods -/
def gCP (l : Launch) (s : State) (As : Nat → Prop) (b L : Nat) (xs : Nat → Int32) : Prop := l.stackTraces = false ∧ gX s ∧ gZ As s s.heap ∧ va_AOA .int s ∧ gSX b L xs As s s.heap
def g_preP (D : va_G) (g : gT) (N : Nat) (ad ln : Nat → Nat) (A : gM) (sz b L : Nat) (xs : Nat → Int32) (av : List gV) : Array Value → State → Prop :=
  va_Pc (av.map (g_v ad)) (fun U => U.heap.size = sz ∧ va_P D vwCl (gw g ad ln A N) U.heap ∧ va_K D vwCl (g_tys g) U ∧ va_D (fun _ => True) (gw g ad ln A N) ∧ gX U ∧ gZ (va_A (gw g ad ln A N) sz) U U.heap ∧ va_AOA .int U ∧ gSX b L xs (va_A (gw g ad ln A N) sz) U U.heap)
theorem va_AOA.moved {u U : State} (hvm : u.vm.Alike U.vm) (h : va_AOA .int u) : va_AOA .int U := by
  have h0 : ∃ comp c k, u.vm.findClass (FieldType.array .int).toString = some comp ∧ (u.vm.classes.findIdx? fun x => match x.kind with | .array component _ => component == comp | _ => false) = some c ∧ u.vm.classes[c]? = some k ∧ k.kind = .array comp (.array .int) ∧ u.vm.findClass ("[" ++ (FieldType.array .int).toString) = some c := by
    have h := h
    simp only [va_AOA, Cond.before, Cond.holds, Cond.value, beq_iff_eq] at h
    cases hc : u.vm.findClass (FieldType.array .int).toString with
    | none => simp [hc] at h
    | some comp =>
      simp only [hc, Option.bind_some, Option.bind_eq_some_iff, Option.map_eq_some_iff] at h
      obtain ⟨c, hi, k, hk, hb⟩ := h
      obtain ⟨hlt, hp, -⟩ := Array.findIdx?_eq_some_iff_getElem.mp hi
      have hkk : u.vm.classes[c] = k := (Array.getElem?_eq_some_iff.mp hk).2
      rw [hkk] at hp
      cases hkind : k.kind with
      | array component ty =>
        rw [hkind] at hb hp
        simp at hb hp
        exact ⟨comp, c, k, rfl, hi, hk, by rw [hkind, hp, hb.1], hb.2⟩
      | _ => rw [hkind] at hb; simp at hb
  obtain ⟨comp, c, k, h1, h2, h3, h4, h5⟩ := h0
  obtain ⟨k', hk', he⟩ := hvm.2.2 _ _ h3
  have hi : (U.vm.classes.findIdx? fun (x : Class) => match x.kind with | .array component _ => component == comp | _ => false) = some c := by
    have e1 := va_idx_bare u.vm comp
    have e2 := va_idx_bare U.vm comp
    have eb : U.vm.bare = u.vm.bare := by first | exact hvm.bare_eq | exact hvm.bare_eq.symm
    rw [eb] at e2
    exact e2.symm.trans (e1.trans h2)
  have hkind : k'.kind = .array comp (.array .int) := by rw [he]; exact h4
  have f1 : U.vm.findClass (FieldType.array .int).toString = some comp := by rw [hvm.findClass]; exact h1
  have f2 : U.vm.findClass ("[" ++ (FieldType.array .int).toString) = some c := by rw [hvm.findClass]; exact h5
  unfold va_AOA Cond.before Cond.holds
  simp only [Cond.value]
  rw [f1, Option.bind_some]
  refine (congrArg (fun o : Option Nat => (o.bind (fun c => (U.vm.classes[c]?).map fun (k : Class) => match k.kind with | .array _ ty => decide (ty = FieldType.array .int) && decide (U.vm.findClass ("[" ++ (FieldType.array .int).toString) = some c) | _ => false) == some true)) hi).trans ?_
  simp [hk', hkind, f2]
theorem gSX.moved {b L : Nat} {xs : Nat → Int32} {As : Nat → Prop} {u U : State} {H : Heap} (hvm : u.vm.Alike U.vm) (h : gSX b L xs As u H) : gSX b L xs As U H := ⟨h.1.moved hvm, h.2⟩
theorem g_blindP {D : va_G} {g : gT} {N : Nat} {ad ln : Nat → Nat} {A : gM} {sz b L : Nat} {xs : Nat → Int32} {av : List gV} : FrameBlind (g_preP D g N ad ln A sz b L xs av) := fun a U q mk h => by
  obtain ⟨q0, q1, qP, qK, qD, qX, ⟨qZ1, qZ2⟩, qO, qS⟩ := h
  exact ⟨q0, q1, qP, va_K.moved (u := U) (U := U.calling q mk a) (Vm.Alike.refl U.vm) qK, qD, qX.same rfl, ⟨vx_Zq.moved (u := U) (U := U.calling q mk a) (Vm.Alike.refl U.vm) qZ1, vx_Zq.moved (u := U) (U := U.calling q mk a) (Vm.Alike.refl U.vm) qZ2⟩, va_AOA.moved (u := U) (U := U.calling q mk a) (Vm.Alike.refl U.vm) qO, gSX.moved (u := U) (U := U.calling q mk a) (Vm.Alike.refl U.vm) qS⟩
/-- the world behind a call -/
def g_BP (D : va_G) (g : gT) (N : Nat) (ad ln : Nat → Nat) (A : gM) (sz N1 : Nat) (ln1 : Nat → Nat) (A1 : gM) (ad1 : Nat → Nat) (t : State) : Prop :=
  (∀ i, i < N → ad1 i = ad i) ∧ va_P D vwCl (gw g ad1 ln1 A1 N1) t.heap ∧ va_K D vwCl (g_tys g) t ∧ va_D (va_A (gw g ad ln A N) sz) (gw g ad1 ln1 A1 N1)
def g_QPi (D : va_G) (g : gT) (N : Nat) (ad ln : Nat → Nat) (A : gM) (sz N1 : Nat) (ln1 : Nat → Nat) (A1 : gM) (r : Int32) : Array Value → State → Outcome → State → Prop :=
  va_Qi (S := Nat → Nat) (fun x _ => x = r) (fun ad1 t => g_BP D g N ad ln A sz N1 ln1 A1 ad1 t) (va_A (gw g ad ln A N) sz)
def g_QPr (D : va_G) (g : gT) (N : Nat) (ad ln : Nat → Nat) (A : gM) (sz N1 : Nat) (ln1 : Nat → Nat) (A1 : gM) (r : Nat) : Array Value → State → Outcome → State → Prop :=
  va_Qr (S := Nat → Nat) (fun _ => True) (fun ad1 a t => a = ad1 r ∧ g_BP D g N ad ln A sz N1 ln1 A1 ad1 t) (va_A (gw g ad ln A N) sz)
def gPi (l : Launch) (y : MethodName) (bb : ByteArray) (nl : Nat) (rt : Option FieldType) (d mc ms : Nat) (D : va_G) (g : gT) (N : Nat) (ad ln : Nat → Nat) (A : gM) (b L : Nat) (xs : Nat → Int32) (av : List gV) (N1 : Nat) (ln1 : Nat → Nat) (A1 : gM) (r : Int32) : Prop :=
  ∀ sz, Met l y (g_ws y bb nl rt) (g_rmx d mc ms) (g_preP D g N ad ln A sz b L xs av) (g_QPi D g N ad ln A sz N1 ln1 A1 r) mc ms (va_A (gw g ad ln A N) sz)
def gPr (l : Launch) (y : MethodName) (bb : ByteArray) (nl : Nat) (rt : Option FieldType) (d mc ms : Nat) (D : va_G) (g : gT) (N : Nat) (ad ln : Nat → Nat) (A : gM) (b L : Nat) (xs : Nat → Int32) (av : List gV) (N1 : Nat) (ln1 : Nat → Nat) (A1 : gM) (r : Nat) : Prop :=
  ∀ sz, Met l y (g_ws y bb nl rt) (g_rmx d mc ms) (g_preP D g N ad ln A sz b L xs av) (g_QPr D g N ad ln A sz N1 ln1 A1 r) mc ms (va_A (gw g ad ln A N) sz)
theorem g_asg (vm : Vm) (c : ClassId) : vm.assignable c c = true := by
  show vm.assignableAux (255 + 1) c c = true
  rw [Vm.assignableAux]
  simp only [beq_self_eq_true, Bool.true_or]
section GP
variable {p : Program} {l : Launch} {e : Env} {R : Room} {s : State} {m : MethodId} {args : Array Value} {below : List Frame} {meth : Method} {c : Code} {Q : State → Prop} {nL : Nat} {D : va_G} {g : gT} {As : Nat → Prop} {N N0 N1 : Nat} {ad ln ad0 ln0 ln1 : Nat → Nat} {A A' A1 A0 : gM} {loc loc' : List (Nat × gV)} {k n pc : Nat} {st : List gV} {cc : ByteArray} {own : String} {d mc ms b L : Nat} {xs : Nat → Int32}
/-- where such a method must come -/
def gEPi (below : List Frame) (D : va_G) (g : gT) (N : Nat) (ad ln : Nat → Nat) (A : gM) (N1 : Nat) (ln1 : Nat → Nat) (A1 : gM) (r : Int32) (mc ms : Nat) (args : Array Value) (s : State) : State → Prop := MQ below (g_QPi D g N ad ln A s.heap.size N1 ln1 A1 r) args s mc ms (va_A (gw g ad ln A N) s.heap.size)
def gEPr (below : List Frame) (D : va_G) (g : gT) (N : Nat) (ad ln : Nat → Nat) (A : gM) (N1 : Nat) (ln1 : Nat → Nat) (A1 : gM) (r : Nat) (mc ms : Nat) (args : Array Value) (s : State) : State → Prop := MQ below (g_QPr D g N ad ln A s.heap.size N1 ln1 A1 r) args s mc ms (va_A (gw g ad ln A N) s.heap.size)
theorem g_metPi {y : MethodName} {bb : ByteArray} {nl : Nat} {rt : Option FieldType} {av : List gV} {r : Int32} (hl : l.stackTraces = false) (hpl : plainName y.cls = true) (hlen : (av.map g_cat).foldr (fun c n => (if c = 2 then 2 else 1) + n) 0 ≤ nl)
    (body : ∀ (p : Program) (e : Env) (s : State) (m : MethodId) (args : Array Value) (below : List Frame) (meth : Method) (c : Code), gC p (g_rmx d mc ms) s m args meth c bb y.cls nl D g (va_A (gw g ad ln A N) s.heap.size) d → gCP l s (va_A (gw g ad ln A N) s.heap.size) b L xs → meth.sig.returnType = rt → gJ p l e (g_rmx d mc ms) s m args below meth c (gEPi below D g N ad ln A N1 ln1 A1 r mc ms args s) nl D g (va_A (gw g ad ln A N) s.heap.size) N ad ln A (g_args 0 av) 0 0 0 []) : gPi l y bb nl rt d mc ms D g N ad ln A b L xs av N1 ln1 A1 r := by
  intro sz
  refine Met.ofW (cc := bb) (maxL := nl) (ret := rt) hpl rfl ?_
  intro p e s m args below meth c s₁ B hml hv
  obtain ⟨rfl, hsz, hP, hK, hD0, hX, hZ, hO, hSX⟩ := hv
  subst hsz
  have hts := atoms_spec (ws := g_ws y bb nl rt) B.pre
  have hown : s.vm.findClass y.cls = some m.cls := findClass_of_methodNamed B.named
  have hl2 := lv_entry (av.map (g_v ad)) (n := nl) (by rw [g_sl_len]; exact hlen)
  rw [lg_entry_eq]
  rw [g_args_map] at hl2
  exact body p e s m _ below meth c ⟨B.exec, B.bytes, hml, hown, fun w hw => hts w (List.mem_cons_of_mem _ hw), hK, fun q h => Or.inr h, B.notSynchronized, Nat.le_refl _, Nat.le_refl _⟩ ⟨hl, hX, hZ, hO, hSX⟩ B.returns s.heap [] _ hP hD0.self va_S.rf hl2
theorem g_metPr {y : MethodName} {bb : ByteArray} {nl : Nat} {rt : Option FieldType} {av : List gV} {r : Nat} (hl : l.stackTraces = false) (hpl : plainName y.cls = true) (hlen : (av.map g_cat).foldr (fun c n => (if c = 2 then 2 else 1) + n) 0 ≤ nl)
    (body : ∀ (p : Program) (e : Env) (s : State) (m : MethodId) (args : Array Value) (below : List Frame) (meth : Method) (c : Code), gC p (g_rmx d mc ms) s m args meth c bb y.cls nl D g (va_A (gw g ad ln A N) s.heap.size) d → gCP l s (va_A (gw g ad ln A N) s.heap.size) b L xs → meth.sig.returnType = rt → gJ p l e (g_rmx d mc ms) s m args below meth c (gEPr below D g N ad ln A N1 ln1 A1 r mc ms args s) nl D g (va_A (gw g ad ln A N) s.heap.size) N ad ln A (g_args 0 av) 0 0 0 []) : gPr l y bb nl rt d mc ms D g N ad ln A b L xs av N1 ln1 A1 r := by
  intro sz
  refine Met.ofW (cc := bb) (maxL := nl) (ret := rt) hpl rfl ?_
  intro p e s m args below meth c s₁ B hml hv
  obtain ⟨rfl, hsz, hP, hK, hD0, hX, hZ, hO, hSX⟩ := hv
  subst hsz
  have hts := atoms_spec (ws := g_ws y bb nl rt) B.pre
  have hown : s.vm.findClass y.cls = some m.cls := findClass_of_methodNamed B.named
  have hl2 := lv_entry (av.map (g_v ad)) (n := nl) (by rw [g_sl_len]; exact hlen)
  rw [lg_entry_eq]
  rw [g_args_map] at hl2
  exact body p e s m _ below meth c ⟨B.exec, B.bytes, hml, hown, fun w hw => hts w (List.mem_cons_of_mem _ hw), hK, fun q h => Or.inr h, B.notSynchronized, Nat.le_refl _, Nat.le_refl _⟩ ⟨hl, hX, hZ, hO, hSX⟩ B.returns s.heap [] _ hP hD0.self va_S.rf hl2
theorem g_retPi (C : gC p R s m args meth c cc own nL D g (va_A (gw g ad0 ln0 A0 N0) s.heap.size) d) (hag : ∀ i, i < N0 → ad i = ad0 i) {r : Int32} (hr : meth.sig.returnType = some .int) (hk : k ≤ mc) (hn : n ≤ ms) (hdg : decode cc pc = .ok (.ireturn, 1)) : gJ p l e R s m args below meth c (gEPi below D g N0 ad0 ln0 A0 N ln A r mc ms args s) nL D g (va_A (gw g ad0 ln0 A0 N0) s.heap.size) N ad ln A loc k n pc [gi r] := fun H locs ls hP hD hS hl => W.widen (k := mc) (n := ms) hk hn (W.iret (v := r) C.1 C.2.1 hr (fun t ht hW => ⟨⟨r, ad, rfl, rfl, hag, by rw [ht]; exact hP, va_K.moved hW.alike C.2.2.2.2.2.1, hD⟩, hS.F ht⟩) hS.2.2 hdg C.2.2.2.2.2.2.2.1)
theorem g_retPz (C : gC p R s m args meth c cc own nL D g (va_A (gw g ad0 ln0 A0 N0) s.heap.size) d) (hag : ∀ i, i < N0 → ad i = ad0 i) {r : Int32} (hr : meth.sig.returnType = some .boolean) (hz : r = 0 ∨ r = 1) (hk : k ≤ mc) (hn : n ≤ ms) (hdg : decode cc pc = .ok (.ireturn, 1)) : gJ p l e R s m args below meth c (gEPi below D g N0 ad0 ln0 A0 N ln A r mc ms args s) nL D g (va_A (gw g ad0 ln0 A0 N0) s.heap.size) N ad ln A loc k n pc [gi r] := fun H locs ls hP hD hS hl => W.widen (k := mc) (n := ms) hk hn (W.zret (v := r) C.1 C.2.1 hr (by rcases hz with rfl | rfl <;> rfl) (fun t ht hW => ⟨⟨r, ad, rfl, rfl, hag, by rw [ht]; exact hP, va_K.moved hW.alike C.2.2.2.2.2.1, hD⟩, hS.F ht⟩) hS.2.2 hdg C.2.2.2.2.2.2.2.1)
theorem g_retPr (C : gC p R s m args meth c cc own nL D g (va_A (gw g ad0 ln0 A0 N0) s.heap.size) d) (hag : ∀ i, i < N0 → ad i = ad0 i) {r : Nat} {rt : FieldType} (hr : meth.sig.returnType = some rt) (hrt : (∃ n, rt = .object n) ∨ ∃ t, rt = .array t) (hk : k ≤ mc) (hn : n ≤ ms) (hdg : decode cc pc = .ok (.areturn, 1)) : gJ p l e R s m args below meth c (gEPr below D g N0 ad0 ln0 A0 N ln A r mc ms args s) nL D g (va_A (gw g ad0 ln0 A0 N0) s.heap.size) N ad ln A loc k n pc [gr r] := fun H locs ls hP hD hS hl => W.widen (k := mc) (n := ms) hk hn (W.aret (v := .ref (ad r)) C.1 C.2.1 hr hrt (Or.inr ⟨_, rfl⟩) (fun t ht hW => ⟨⟨ad, ad r, rfl, trivial, rfl, hag, by rw [ht]; exact hP, va_K.moved hW.alike C.2.2.2.2.2.1, hD⟩, hS.F ht⟩) hS.2.2 hdg C.2.2.2.2.2.2.2.1)
theorem g_aloadX (C : gC p R s m args meth c cc own nL D g As d) (q : Nat) {x i : Nat} (hdg : decode cc pc = .ok (.aload i, 2)) (h : loc[q]? = some (i, .inr (.ref x))) (kk : gJ p l e R s m args below meth c Q nL D g As N ad ln A loc k n (pc + 2) (.inr (.ref x) :: st)) : gJ p l e R s m args below meth c Q nL D g As N ad ln A loc k n pc st := fun H locs ls hP hD hS hl => lv_aload C.1 C.2.1 hdg (g_at hl h) (kk H locs ls hP hD hS hl)
theorem g_aloadX_n (C : gC p R s m args meth c cc own nL D g As d) (q : Nat) {x : Nat} {z : Fin 4} (hdg : decode cc pc = .ok (.aload_n z, 1)) (h : loc[q]? = some ((z : Nat), .inr (.ref x))) (kk : gJ p l e R s m args below meth c Q nL D g As N ad ln A loc k n (pc + 1) (.inr (.ref x) :: st)) : gJ p l e R s m args below meth c Q nL D g As N ad ln A loc k n pc st := fun H locs ls hP hD hS hl => lv_aload_n C.1 C.2.1 hdg rfl (g_at hl h) (kk H locs ls hP hD hS hl)
theorem g_slen (C : gC p R s m args meth c cc own nL D g As d) (CX : gCP l s As b L xs) (hdg : decode cc pc = .ok (.arraylength, 1)) (kk : gJ p l e R s m args below meth c Q nL D g As N ad ln A loc k n (pc + 1) (gi (Int32.ofNat L) :: st)) : gJ p l e R s m args below meth c Q nL D g As N ad ln A loc k n pc (.inr (.ref b) :: st) := fun H locs ls hP hD hS hl => va_slen C.1 C.2.1 CX.2.2.2.2.1 CX.2.2.2.2.2.1 CX.2.2.2.2.2.2 hS hdg (kk H locs ls hP hD hS hl)
theorem g_sld (C : gC p R s m args meth c cc own nL D g As d) (CX : gCP l s As b L xs) {x : Int32} (hin : g_in x L = true) (hdg : decode cc pc = .ok (.iaload, 1)) (kk : gJ p l e R s m args below meth c Q nL D g As N ad ln A loc k n (pc + 1) (gi (xs x.toNatClampNeg) :: st)) : gJ p l e R s m args below meth c Q nL D g As N ad ln A loc k n pc (gi x :: .inr (.ref b) :: st) := fun H locs ls hP hD hS hl => va_sld C.1 C.2.1 CX.2.2.2.2.1 CX.2.2.2.2.2.1 CX.2.2.2.2.2.2 hS (g_in_vp hin) hdg (kk H locs ls hP hD hS hl)
theorem g_irem (C : gC p R s m args meth c cc own nL D g As d) {x y : Int32} (hne : ¬ y = 0) (hdg : decode cc pc = .ok (.irem, 1)) (kk : gJ p l e R s m args below meth c Q nL D g As N ad ln A loc k n (pc + 1) (gi (x - x / y * y) :: st)) : gJ p l e R s m args below meth c Q nL D g As N ad ln A loc k n pc (gi y :: gi x :: st) := fun H locs ls hP hD hS hl => lv_irem C.1 C.2.1 hdg hne (kk H locs ls hP hD hS hl)
theorem g_idiv (C : gC p R s m args meth c cc own nL D g As d) {x y : Int32} (hne : ¬ y = 0) (hdg : decode cc pc = .ok (.idiv, 1)) (kk : gJ p l e R s m args below meth c Q nL D g As N ad ln A loc k n (pc + 1) (gi (x / y) :: st)) : gJ p l e R s m args below meth c Q nL D g As N ad ln A loc k n pc (gi y :: gi x :: st) := fun H locs ls hP hD hS hl => lv_idiv C.1 C.2.1 hdg hne (kk H locs ls hP hD hS hl)
theorem g_ishr (C : gC p R s m args meth c cc own nL D g As d) {x y : Int32} (hdg : decode cc pc = .ok (.ishr, 1)) (kk : gJ p l e R s m args below meth c Q nL D g As N ad ln A loc k n (pc + 1) (gi (x >>> (y &&& 31)) :: st)) : gJ p l e R s m args below meth c Q nL D g As N ad ln A loc k n pc (gi y :: gi x :: st) := fun H locs ls hP hD hS hl => lv_ishr C.1 C.2.1 hdg (kk H locs ls hP hD hS hl)
theorem g_ifnn (C : gC p R s m args meth c cc own nL D g As d) {i tgt : Nat} {off : Int} (hdg : decode cc pc = .ok (.ifnonnull off, 3)) (ht : (pc : Int) + off = (tgt : Int)) (kk : gJ p l e R s m args below meth c Q nL D g As N ad ln A loc k n tgt st) : gJ p l e R s m args below meth c Q nL D g As N ad ln A loc k n pc (gr i :: st) := fun H locs ls hP hD hS hl => lv_ifnonnull C.1 C.2.1 hdg ht (kk H locs ls hP hD hS hl)
theorem g_ifn (C : gC p R s m args meth c cc own nL D g As d) {i : Nat} {off : Int} (hdg : decode cc pc = .ok (.ifnull off, 3)) (kk : gJ p l e R s m args below meth c Q nL D g As N ad ln A loc k n (pc + 3) st) : gJ p l e R s m args below meth c Q nL D g As N ad ln A loc k n pc (gr i :: st) := fun H locs ls hP hD hS hl => lv_ifnull C.1 C.2.1 hdg (kk H locs ls hP hD hS hl)
theorem g_jald (C : gC p R s m args meth c cc own nL D g As d) (i : Nat) {x : Int32} (hi : (i < N ∧ 183 ≤ i ∧ ln i < 1000) ∧ g_in x (ln i) = true) (hdg : decode cc pc = .ok (.iaload, 1)) (kk : gJ p l e R s m args below meth c Q nL D g As N ad ln A loc k n (pc + 1) (gi (A i x.toNatClampNeg) :: st)) : gJ p l e R s m args below meth c Q nL D g As N ad ln A loc k n pc (gi x :: gr i :: st) := fun H locs ls hP hD hS hl => va_iald C.1 C.2.1 C.2.2.2.2.2.1 hP i 0 (f := A i) (n := ln i) (cA := g.1) (by rw [gw_at hi.1.1, g_ln_b hi.1.2.1, g_ce_J hi.1.2.1 hi.1.2.2]) rfl (g_in_vp hi.2) hdg (kk H locs ls hP hD hS hl)
theorem g_jast (C : gC p R s m args meth c cc own nL D g As d) (i : Nat) {x v : Int32} {A' : gM} (hi : (i < N ∧ 183 ≤ i ∧ ln i < 1000) ∧ g_in x (ln i) = true) (hA : g_up A i x.toNatClampNeg v = A') (hdg : decode cc pc = .ok (.iastore, 1)) (kk : gJ p l e R s m args below meth c Q nL D g As N ad ln A' loc k n (pc + 1) st) : gJ p l e R s m args below meth c Q nL D g As N ad ln A loc k n pc (gi v :: gi x :: gr i :: st) := fun H locs ls hP hD hS hl => va_iast C.1 C.2.1 C.2.2.2.2.2.1 hP hD hS i 0 (f := A i) (n := ln i) (cA := g.1) (by rw [gw_at hi.1.1, g_ln_b hi.1.2.1, g_ce_J hi.1.2.1 hi.1.2.2]) rfl (g_in_vp hi.2) hdg (fun H1 locs1 hP1 hD1 hS1 => by
  have e : (gw g ad ln A N).set i (ad i, .inl (g.1, ln i, .inl (upd (A i) x.toNatClampNeg v))) = gw g ad ln A' N := by
    rw [← hA, g_up, ← gw_set hi.1.1, g_ln_b hi.1.2.1, g_ce_J hi.1.2.1 hi.1.2.2]
  rw [e] at hP1 hD1
  exact kk H1 locs1 ls hP1 hD1 hS1 hl)
theorem g_jlen (C : gC p R s m args meth c cc own nL D g As d) (i : Nat) (hi : i < N ∧ 183 ≤ i ∧ ln i < 1000) (hdg : decode cc pc = .ok (.arraylength, 1)) (kk : gJ p l e R s m args below meth c Q nL D g As N ad ln A loc k n (pc + 1) (gi (Int32.ofNat (ln i)) :: st)) : gJ p l e R s m args below meth c Q nL D g As N ad ln A loc k n pc (gr i :: st) := fun H locs ls hP hD hS hl => va_alen C.1 C.2.1 C.2.2.2.2.2.1 hP i 0 (x := (ln i, .inl (A i))) (cA := g.1) (by rw [gw_at hi.1, g_ln_b hi.2.1, g_ce_J hi.2.1 hi.2.2]) rfl rfl hdg (kk H locs ls hP hD hS hl)
theorem g_rlen (C : gC p R s m args meth c cc own nL D g As d) (i : Nat) (hi : i < N ∧ 183 ≤ i ∧ 1000 ≤ ln i) (hdg : decode cc pc = .ok (.arraylength, 1)) (kk : gJ p l e R s m args below meth c Q nL D g As N ad ln A loc k n (pc + 1) (gi (Int32.ofNat (ln i - 1000)) :: st)) : gJ p l e R s m args below meth c Q nL D g As N ad ln A loc k n pc (gr i :: st) := fun H locs ls hP hD hS hl => va_alen C.1 C.2.1 C.2.2.2.2.2.1 hP i 1 (x := (ln i - 1000, .inr (.inr (.inr (.inr (g_rf ad (A i) i)))))) (cA := g.2) (by rw [gw_at hi.1, g_ln_b hi.2.1, g_ce_R hi.2.1 hi.2.2]) rfl rfl hdg (kk H locs ls hP hD hS hl)
theorem g_rf_v {ad : Nat → Nat} {f : Nat → Int32} {i j : Nat} (h : ¬ (f j < 0 ∨ i ≤ (f j).toNatClampNeg)) : g_rf ad f i j = some (ad (f j).toNatClampNeg) := if_neg h
/-- a row out of an array of rows -/
theorem g_rald (C : gC p R s m args meth c cc own nL D g As d) (i : Nat) {x : Int32} (hi : (i < N ∧ 183 ≤ i ∧ 1000 ≤ ln i) ∧ g_in x (ln i - 1000) = true ∧ ¬ (A i x.toNatClampNeg < 0 ∨ i ≤ (A i x.toNatClampNeg).toNatClampNeg)) (hdg : decode cc pc = .ok (.aaload, 1)) (kk : gJ p l e R s m args below meth c Q nL D g As N ad ln A loc k n (pc + 1) (gr (A i x.toNatClampNeg).toNatClampNeg :: st)) : gJ p l e R s m args below meth c Q nL D g As N ad ln A loc k n pc (gi x :: gr i :: st) := fun H locs ls hP hD hS hl => by
  have hlt := g_in_lt hi.2.1
  have hin := g_in_vp hi.2.1
  have ha : H[ad i]? = some (arrV g.2 (ln i - 1000) (fun j => va_rf (g_rf ad (A i) i j))) := by
    have h1 := hP i _ (gw_at hi.1.1)
    rw [g_ln_b hi.1.2.1, g_ce_R hi.1.2.1 hi.1.2.2] at h1
    exact h1
  have hv : va_rf (g_rf ad (A i) i x.toNatClampNeg) = .ref (ad (A i x.toNatClampNeg).toNatClampNeg) := by rw [g_rf_v hi.2.2]; rfl
  exact W.aald (v := .ref (ad (A i x.toNatClampNeg).toNatClampNeg)) (ty := .array .int) C.1 C.2.1 ha ((C.2.2.2.2.2.1.2 1 _ rfl).1 (ln i - 1000) (fun j => va_rf (g_rf ad (A i) i j))) rfl (fun q => by cases q) (by show ¬ (x < 0 ∨ (arrV _ _ _).slots.size ≤ _); rw [arrV_size]; exact hin) (by show (arrV _ _ _).slots[_]? = _; rw [arrV_read _ _ hlt, hv]) rfl rfl hdg (kk H locs ls hP hD hS hl)
theorem g_rf_up {ad : Nat → Nat} {f : Nat → Int32} {i j r : Nat} (hr : r < i) (hb : i ≤ 2000000) : va_up (g_rf ad f i) j (some (ad r)) = g_rf ad (upd f j (nI r)) i := by
  funext q
  unfold g_rf va_up upd
  by_cases e : q = j
  · subst e
    rw [if_pos rfl, if_pos rfl, nI_clamp (by omega), if_neg]
    intro z
    rcases z with z | z
    · exact nI_pos (by omega) z
    · omega
  · rw [if_neg e, if_neg e]
/-- a row into an array of rows -/
theorem g_rast (C : gC p R s m args meth c cc own nL D g As d) (CX : gCP l s As b L xs) (i r : Nat) {x : Int32} {A' : gM} (hi : (i < N ∧ 183 ≤ i ∧ 1000 ≤ ln i ∧ i ≤ 2000000) ∧ g_in x (ln i - 1000) = true ∧ r < i ∧ 183 ≤ r ∧ ln r < 1000) (hA : g_up A i x.toNatClampNeg (nI r) = A') (hdg : decode cc pc = .ok (.aastore, 1)) (kk : gJ p l e R s m args below meth c Q nL D g As N ad ln A' loc k n (pc + 1) st) : gJ p l e R s m args below meth c Q nL D g As N ad ln A loc k n pc (gr r :: gi x :: gr i :: st) := fun H locs ls hP hD hS hl => by
  have hlt := g_in_lt hi.2.1
  have hin := g_in_vp hi.2.1
  have h0 : ¬ x < 0 := fun q => hin (Or.inl q)
  have ha : H[ad i]? = some (arrV g.2 (ln i - 1000) (fun j => va_rf (g_rf ad (A i) i j))) := by
    have h1 := hP i _ (gw_at hi.1.1)
    rw [g_ln_b hi.1.2.1, g_ce_R hi.1.2.1 hi.1.2.2.1] at h1
    exact h1
  have hv : H[ad r]? = some (arrV g.1 (ln r) (fun j => .int (A r j))) := by
    have h1 := hP r _ (gw_at (by omega))
    rw [g_ln_b hi.2.2.2.1, g_ce_J hi.2.2.2.1 hi.2.2.2.2] at h1
    exact h1
  obtain ⟨comp, cA, kA, k3, -, k1, k2, k4⟩ := arrayOverA_spec (va_AOA.use (A := args) CX.2.2.2.1)
  have f2 : va_RA s g.2 (.array .int) := (C.2.2.2.2.2.1.2 1 _ rfl).2
  have hcA : cA = g.2 := Option.some.inj (k4.symm.trans f2)
  rw [hcA] at k1
  have f1 : va_RA s g.1 .int := (C.2.2.2.2.2.1.2 0 _ rfl).2
  have hcomp : comp = g.1 := Option.some.inj (k3.symm.trans f1)
  subst hcomp
  obtain ⟨kI, hkI, -⟩ := Vm.findClass_spec k3
  refine W.aast C.1 C.2.1 ha (fun q h => by cases h) (fun h => by cases h) k1 k2 rfl hkI ⟨h0, by show _ < (arrV _ _ _).slots.size; rw [arrV_size]; exact hlt⟩ hv (fun q h => by cases h) hkI (g_asg _ _) rfl rfl hdg fun H1 e z oq => ?_
  have e1 : (gw g ad ln A N).set i (ad i, .inl (g.2, ln i - 1000, .inr (.inr (.inr (.inr (va_up (g_rf ad (A i) i) x.toNatClampNeg (some (ad r)))))))) = gw g ad ln A' N := by
    rw [← hA, g_up, ← gw_set hi.1.1, g_ln_b hi.1.2.1, g_ce_R hi.1.2.1 hi.1.2.2.1, g_rf_up hi.2.2.1 hi.1.2.2.2]
  have hc : va_at D vwCl (ad i, .inl (g.2, ln i - 1000, .inr (.inr (.inr (.inr (va_up (g_rf ad (A i) i) x.toNatClampNeg (some (ad r)))))))) H1 := by
    show H1[ad i]? = some (vp_cell _ _)
    rw [e]
    rw [vp_cell_q, arrV_store]
    congr 2
    funext q
    by_cases hq : q = x.toNatClampNeg
    · subst hq
      simp [updV, va_up, va_rf]
    · simp [updV, va_up, hq]
  have hP1 := hP.set hD (gw_at hi.1.1) hc oq
  have hD1 := hD.set (e := .inl (g.2, ln i - 1000, .inr (.inr (.inr (.inr (va_up (g_rf ad (A i) i) x.toNatClampNeg (some (ad r)))))))) (gw_at hi.1.1)
  rw [e1] at hP1 hD1
  exact kk H1 _ ls hP1 hD1 (hS.put z oq (hD.2 i _ (gw_at hi.1.1))) hl
/-- new int[..]: the new cell is number N -/
theorem g_newJ (C : gC p R s m args meth c cc own nL D g As d) (hN : 183 ≤ N) {x : Int32} {w : Nat} (hw : Cond.arrayClass .int ∈ gtb) (hx : ¬ x < 0 ∧ x.toNatClampNeg = w ∧ w < 1000) (hkn : k + 1 ≤ R.cells ∧ n + w ≤ R.slots) (hr : g_rlt N (loc.map Prod.snd)) (hr2 : g_rlt N st) (hdg : decode cc pc = .ok (.newarray .int, 2))
    (kk : ∀ q : Nat, gJ p l e R s m args below meth c Q nL D g As (N + 1) (va_up ad N q) (va_up ln N w) (g_row A N (fun _ => 0)) loc (k + 1) (n + w) (pc + 2) (gr N :: st)) : gJ p l e R s m args below meth c Q nL D g As N ad ln A loc k n pc (gi x :: st) := fun H locs ls hP hD hS hl => by
  refine va_newa (atype := .int) (ty := .int) (N' := w) (a0 := (w, .inl (fun _ => 0))) C.1 C.2.1 (C.2.2.2.2.1 _ hw) rfl C.2.2.2.2.2.1 hP hD hS C.2.2.2.2.2.2.1 (fun _ => rfl) hx.1 hx.2.1 (by show w * 4 ≤ 536870912; omega) hkn.1 hkn.2 hdg (fun q cA H1 hK1 hP1 hD1 hS1 => ?_)
  have hcA : cA = g.1 := by
    have h1 : va_RA s cA .int := (hK1.2 2 (cA, .int) rfl).2
    have h2 : va_RA s g.1 .int := (hK1.2 0 (g.1, .int) rfl).2
    exact Option.some.inj (h1.symm.trans h2)
  subst hcA
  have e0 : g_ce g (va_up ad N q) w (fun _ => 0) N = .inl (g.1, w, .inl (fun _ => 0)) := g_ce_J hN hx.2.2
  rw [← e0, ← gw_push hN] at hP1 hD1
  have hk := kk q H1 locs ls hP1 hD1 hS1 (by rw [g_rlt_loc g_up_o hr]; exact hl)
  have e3 : (gr N :: st).map (g_v (va_up ad N q)) = .ref q :: st.map (g_v ad) := by
    rw [List.map_cons, g_rlt_st g_up_o hr2]
    show Value.ref (va_up ad N q N) :: _ = _
    rw [show va_up ad N q N = q from if_pos rfl]
  rw [e3] at hk
  exact hk
/-- new int[..][]: the new cell is number N, its places none -/
theorem g_newR (C : gC p R s m args meth c cc own nL D g As d) (CX : gCP l s As b L xs) (hN : 183 ≤ N) {x : Int32} {w ix : Nat} (hw : Cond.classLink own ix (FieldType.array .int).toString ∈ gtb) (hx : ¬ x < 0 ∧ x.toNatClampNeg = w ∧ w < 1000) (hkn : k + 1 ≤ R.cells ∧ n + w ≤ R.slots) (hr : g_rlt N (loc.map Prod.snd)) (hr2 : g_rlt N st) (hdg : decode cc pc = .ok (.anewarray ix, 3))
    (kk : ∀ q : Nat, gJ p l e R s m args below meth c Q nL D g As (N + 1) (va_up ad N q) (va_up ln N (1000 + w)) (g_row A N (fun _ => -1)) loc (k + 1) (n + w) (pc + 3) (gr N :: st)) : gJ p l e R s m args below meth c Q nL D g As N ad ln A loc k n pc (gi x :: st) := fun H locs ls hP hD hS hl => by
  refine W.anewA C.1 C.2.1 C.2.2.2.1 (C.2.2.2.2.1 _ hw) (va_AOA.use CX.2.2.2.1) rfl hdg rfl hx.1 (by rw [hx.2.1]; omega) hkn.1 (by rw [hx.2.1]; exact hkn.2) fun cA kA comp f1 f2 f3 f4 => ?_
  rw [hx.2.1]
  have hcA : cA = g.2 := by
    have k4 : va_RA s g.2 (.array .int) := (C.2.2.2.2.2.1.2 1 _ rfl).2
    exact Option.some.inj (f1.symm.trans k4)
  subst hcA
  generalize hH1 : H.push ({ cls := g.2, slots := Array.replicate w .null, vm := .none } : Cell) = H1
  have z1 : H1.size = H.size + 1 := by rw [← hH1, Array.size_push]
  have e1 : H1[H.size]? = some (arrV g.2 w (fun _ => .null)) := by rw [← hH1, Array.getElem?_push_size, ← arrV_new]
  have o1 : ∀ q : Nat, q < H.size → H1[q]? = H[q]? := fun q hq => by rw [← hH1, Array.getElem?_push, if_neg (Nat.ne_of_lt hq)]
  have hk : ∀ (k : Nat) (x : Nat × va_E), (gw g ad ln A N)[k]? = some x → H1[x.1]? = H[x.1]? := fun k x hx => o1 x.1 ((hP k x hx).lt)
  have e0 : g_ce g (va_up ad N H.size) (1000 + w) (fun _ => -1) N = .inl (g.2, w, .inr (.inr (.inr (.inr (fun _ => none))))) := by
    rw [g_ce_R hN (by omega), show 1000 + w - 1000 = w by omega]
    have : g_rf (va_up ad N H.size) (fun _ => -1) N = fun _ => none := funext fun _ => if_pos (Or.inl (show (-1 : Int32) < 0 by decide))
    rw [this]
  have hP1 : va_P D vwCl (gw g ad ln A N ++ [(H.size, g_ce g (va_up ad N H.size) (1000 + w) (fun _ => -1) N)]) H1 := (hP.kept hk).app (fun k x hx => by
    have hz : k < 1 := (List.getElem?_eq_some_iff.mp hx).1
    rw [show k = 0 by omega] at hx
    cases hx
    rw [e0]
    show H1[H.size]? = some (vp_cell _ _)
    rw [vp_cell_q]
    exact e1)
  have hD1 : va_D As (gw g ad ln A N ++ [(H.size, g_ce g (va_up ad N H.size) (1000 + w) (fun _ => -1) N)]) := hD.push hP rfl (C.2.2.2.2.2.2.1 _ hS.1)
  have hS1 : va_S As s.heap H1 locs := ⟨Nat.le_trans hS.1 (by omega), fun x h1 h2 => (o1 x (Nat.lt_of_lt_of_le h1 hS.1)).trans (hS.2.1 x h1 h2), hS.2.2⟩
  rw [← gw_push hN] at hP1 hD1
  have hk2 := kk H.size H1 locs ls hP1 hD1 hS1 (by rw [g_rlt_loc g_up_o hr]; exact hl)
  have e3 : (gr N :: st).map (g_v (va_up ad N H.size)) = .ref H.size :: st.map (g_v ad) := by
    rw [List.map_cons, g_rlt_st g_up_o hr2]
    show Value.ref (va_up ad N H.size N) :: _ = _
    rw [show va_up ad N H.size N = H.size from if_pos rfl]
  rw [e3] at hk2
  exact hk2
/-- a call of the class's own methods that doesn't throw here -/
theorem g_callX (C : gC p R s m args meth c cc own nL D g As d) (CX : gCP l s As b L xs) (i : Nat) (as : List gV) {st0 : List gV} {Cn : String} {ci ix np mL d' c1 : Nat} {z : MethodName} {bb : ByteArray} {rt : Option FieldType} {fs : List Value} {T : u_T} {Nn : Nat} {r : Int32} (hM : gXi l z bb mL rt d' c1 D g N ad ln A (gr i :: as) A1 (.inl r)) (hs : g_site own Cn ix z bb mL rt np) (hd : d' + 1 ≤ d) (hi : i < N) (he : g_ce g ad (g_ln ln i) (A i) i = .inr (ci, fs)) (hc : vwCl[ci]? = some (Cn, T, Nn)) (hn : as.length = np) (hst : st0 = as.reverse ++ gr i :: st) (hcat : (st.map g_cat).sum ≤ 8) (hk1 : k + c1 ≤ R.cells ∧ n + 6 * c1 ≤ R.slots) (hdg : decode cc pc = .ok (.invokevirtual ix, 3)) (kk : gJ p l e R s m args below meth c Q nL D g As N ad ln A1 loc (k + c1) (n + 6 * c1) (pc + 3) (gi r :: st)) : gJ p l e R s m args below meth c Q nL D g As N ad ln A loc k n pc st0 := by
  intro H locs ls hP hD hS hl
  have hF := g_frees hD hS C.2.2.2.2.2.2.1
  refine vx_calli (vx_runV (C := Cn) (b := ad i) (As := as.map (g_v ad)) (rest := st.map (g_v ad)) ⟨C.1, C.2.1, C.2.2.1, C.2.2.2.1, C.2.2.2.2.1⟩ (hM H.size) (cwV np C.2.2.2.2.1 (g_goodV hs) rfl rfl rfl hs.2.2.2.2.2.1 (g_roomx C.2.2.2.2.2.2.2.2 hd hs.2.2.2.2.2.2)) ⟨g_blindX, va_recv C.2.2.2.2.2.1 hP (q0 := i) hc (by rw [gw_at hi, he]), fun U hU hW => ⟨rfl, by rw [hU], by rw [hU]; exact hP, va_K.moved hW.alike C.2.2.2.2.2.1, hD.weaken (fun _ _ _ _ => trivial), CX.2.1.warm hW, by rw [hU]; exact g_zNow CX.2.2.1 C.2.2.2.2.2.2.1 hD hS hW.alike⟩⟩ rfl (by rw [List.length_map]; exact hn) hl.1 (by show st0.map (g_v ad) = _; rw [hst]; simp [g_v]) (g_lv hcat) hdg ⟨hk1.1, hk1.2⟩) hS (fun q _ h => hF q h) hF (fun q _ h => hF q h) (fun E ce q9 u t H1 locs1 ht hvm hw hB hz1 hk1 hS hce hcv hcl => ?_) (fun r2 u t H1 locs1 ht hvm hw hB hz1 hk1 hS => ?_)
  · obtain ⟨j, hj, -⟩ := hB
    cases hj
  · obtain ⟨hP1, hK1, hD1⟩ := hB
    rw [ht] at hP1
    have hw : (Sum.inl r : Int32 ⊕ Nat) = .inl r2 := hw
    cases hw
    exact kk H1 locs1 ls hP1 (hD1.weaken (fun _ _ _ h => hF _ h)) hS hl
theorem g_preNow (C : gC p R s m args meth c cc own nL D g As d) (CX : gCP l s As b L xs) {as : List gV} {H : Heap} {locs : List Loc} (hP : va_P D vwCl (gw g ad ln A N) H) (hD : va_D As (gw g ad ln A N)) (hS : va_S As s.heap H locs) {U : State} (hU : U.heap = H) (hW : s.WarmedH U.vm) : g_preP D g N ad ln A H.size b L xs as (as.map (g_v ad)).toArray U := by
  have hF := g_frees hD hS C.2.2.2.2.2.2.1
  refine ⟨rfl, by rw [hU], by rw [hU]; exact hP, va_K.moved hW.alike C.2.2.2.2.2.1, hD.weaken (fun _ _ _ _ => trivial), CX.2.1.warm hW, by rw [hU]; exact g_zNow CX.2.2.1 C.2.2.2.2.2.2.1 hD hS hW.alike, va_AOA.moved hW.alike CX.2.2.2.1, ?_⟩
  obtain ⟨x1, x2, x3⟩ := CX.2.2.2.2
  rw [hU]
  exact ⟨(x1.kept (hS.2.1 b x2 x3)).moved hW.alike, Nat.lt_of_lt_of_le x2 hS.1, fun q => x3 (hF b q)⟩
/-- calls of the law's own methods -/
theorem g_callPi (C : gC p R s m args meth c cc own nL D g As d) (CX : gCP l s As b L xs) (as : List gV) {st0 : List gV} {ix np mL d' : Nat} {z : MethodName} {bb : ByteArray} {rt : Option FieldType} {r : Int32} (hM : gPi l z bb mL rt d' mc ms D g N ad ln A b L xs as N1 ln1 A1 r) (hs : g_siteS own ix z bb mL rt np) (hd : d' + 1 ≤ d) (hn : as.length = np) (hst : st0 = as.reverse ++ st) (hcat : (st.map g_cat).sum ≤ 8) (hkn : k + mc ≤ R.cells ∧ n + ms ≤ R.slots) (hr : g_rlt N (loc.map Prod.snd)) (hr2 : g_rlt N st) (hdg : decode cc pc = .ok (.invokestatic ix, 3)) (kk : ∀ (ad1 : Nat → Nat), (∀ i, i < N → ad1 i = ad i) → gJ p l e R s m args below meth c Q nL D g As N1 ad1 ln1 A1 loc (k + mc) (n + ms) (pc + 3) (gi r :: st)) : gJ p l e R s m args below meth c Q nL D g As N ad ln A loc k n pc st0 := by
  intro H locs ls hP hD hS hl
  have hF := g_frees hD hS C.2.2.2.2.2.2.1
  refine va_calli (va_runS (As := as.map (g_v ad)) (rest := st.map (g_v ad)) ⟨C.1, C.2.1, C.2.2.1, C.2.2.2.1, C.2.2.2.2.1⟩ (hM H.size) (cwS np C.2.2.2.2.1 (g_goodS hs) rfl rfl rfl hs.2.2.2.2.1 (g_roomx C.2.2.2.2.2.2.2.2 hd hs.2.2.2.2.2)) ⟨g_blindP, fun U hU hW => g_preNow C CX hP hD hS hU hW⟩ rfl (by rw [List.length_map]; exact hn) hl.1 (by show st0.map (g_v ad) = _; rw [hst]; simp [g_v]) (g_lv hcat) hdg hkn) hS (fun q _ h => hF q h) hF (fun r2 ad1 t H1 locs1 ht hvm hw hB hz1 hk1 hS => ?_)
  subst hw
  obtain ⟨hag, hP1, hK1, hD1⟩ := hB
  rw [ht] at hP1
  have e3 : (gi r2 :: st).map (g_v ad1) = .int r2 :: st.map (g_v ad) := by rw [List.map_cons, g_rlt_st hag hr2]; rfl
  have hk := kk ad1 hag H1 locs1 ls hP1 (hD1.weaken (fun _ _ _ h => hF _ h)) hS (by rw [g_rlt_loc hag hr]; exact hl)
  rw [e3] at hk
  exact hk
theorem g_callPr (C : gC p R s m args meth c cc own nL D g As d) (CX : gCP l s As b L xs) (as : List gV) {st0 : List gV} {ix np mL d' : Nat} {z : MethodName} {bb : ByteArray} {rt : Option FieldType} {r : Nat} (hM : gPr l z bb mL rt d' mc ms D g N ad ln A b L xs as N1 ln1 A1 r) (hs : g_siteS own ix z bb mL rt np) (hd : d' + 1 ≤ d) (hn : as.length = np) (hst : st0 = as.reverse ++ st) (hcat : (st.map g_cat).sum ≤ 8) (hkn : k + mc ≤ R.cells ∧ n + ms ≤ R.slots) (hr : g_rlt N (loc.map Prod.snd)) (hr2 : g_rlt N st) (hdg : decode cc pc = .ok (.invokestatic ix, 3)) (kk : ∀ (ad1 : Nat → Nat), (∀ i, i < N → ad1 i = ad i) → gJ p l e R s m args below meth c Q nL D g As N1 ad1 ln1 A1 loc (k + mc) (n + ms) (pc + 3) (gr r :: st)) : gJ p l e R s m args below meth c Q nL D g As N ad ln A loc k n pc st0 := by
  intro H locs ls hP hD hS hl
  have hF := g_frees hD hS C.2.2.2.2.2.2.1
  refine va_callr (va_runS (As := as.map (g_v ad)) (rest := st.map (g_v ad)) ⟨C.1, C.2.1, C.2.2.1, C.2.2.2.1, C.2.2.2.2.1⟩ (hM H.size) (cwS np C.2.2.2.2.1 (g_goodS hs) rfl rfl rfl hs.2.2.2.2.1 (g_roomx C.2.2.2.2.2.2.2.2 hd hs.2.2.2.2.2)) ⟨g_blindP, fun U hU hW => g_preNow C CX hP hD hS hU hW⟩ rfl (by rw [List.length_map]; exact hn) hl.1 (by show st0.map (g_v ad) = _; rw [hst]; simp [g_v]) (g_lv hcat) hdg hkn) hS (fun q _ h => hF q h) hF (fun ad1 ra t H1 locs1 ht hvm hw hB hz1 hk1 hS => ?_)
  obtain ⟨rfl, hag, hP1, hK1, hD1⟩ := hB
  rw [ht] at hP1
  have e3 : (gr r :: st).map (g_v ad1) = .ref (ad1 r) :: st.map (g_v ad) := by rw [List.map_cons, g_rlt_st hag hr2]; rfl
  have hk := kk ad1 hag H1 locs1 ls hP1 (hD1.weaken (fun _ _ _ h => hF _ h)) hS (by rw [g_rlt_loc hag hr]; exact hl)
  rw [e3] at hk
  exact hk
end GP
