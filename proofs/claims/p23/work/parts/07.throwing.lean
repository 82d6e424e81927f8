/-! CONTRACTS of methods that may throw: the answer is .inl r, or .inr k for the exception number k -/
def g_xn : Nat → String
  | 0 => "java/lang/IndexOutOfBoundsException"
  | 1 => "java/lang/IllegalArgumentException"
  | _ => "java/lang/IllegalStateException"
/-- the words that a throw needs and that are no tables' words: they are handed on from call to call -/
def gxw : List Cond := [.declares (Bundle.init0 "java/lang/RuntimeException"), .declares (Bundle.init0 "java/lang/Exception"), .declares (Bundle.init0 "java/lang/Throwable"), .castable (g_xn 0) (g_xn 0), .castable (g_xn 1) (g_xn 1), .castable (g_xn 2) (g_xn 2)]
def gX (U : State) : Prop := ∀ w ∈ gxw, va_Nw w U
theorem gX_tab : ∀ w ∈ gxw, w.onTables = true := by decide +kernel
theorem gX.same {u U : State} (h : gX u) (hv : u.vm = U.vm) : gX U := fun w hw => va_Nw.same (gX_tab w hw) hv (h w hw)
theorem gX.warm {u U : State} (h : gX u) (hW : u.WarmedH U.vm) : gX U := by
  have h := h
  unfold gX gxw at h ⊢
  simp only [List.forall_mem_cons, List.not_mem_nil, false_implies, implies_true, and_true] at h ⊢
  obtain ⟨h1, h2, h3, h4, h5, h6⟩ := h
  exact ⟨va_Nw.warmD hW h1, va_Nw.warmD hW h2, va_Nw.warmD hW h3, va_Nw.warmC hW h4, va_Nw.warmC hW h5, va_Nw.warmC hW h6⟩
/-- the two statics of Throwable, outside A -/
def gZ (A : Nat → Prop) (U : State) (H : Heap) : Prop := vx_Zq Bundle.tN "UNASSIGNED_STACK" Bundle.steD A U H ∧ vx_Zq Bundle.tN "SUPPRESSED_SENTINEL" Bundle.listD A U H
def g_rmx (d k n : Nat) : Room := { frames := d, cells := k, slots := n, locals := 40 * d }
def g_preX (D : va_G) (g : gT) (N : Nat) (ad ln : Nat → Nat) (A : gM) (sz : Nat) (av : List gV) : Array Value → State → Prop :=
  va_Pc (av.map (g_v ad)) (fun U => U.heap.size = sz ∧ va_P D vwCl (gw g ad ln A N) U.heap ∧ va_K D vwCl (g_tys g) U ∧ va_D (fun _ => True) (gw g ad ln A N) ∧ gX U ∧ gZ (va_A (gw g ad ln A N) sz) U U.heap)
theorem g_blindX {D : va_G} {g : gT} {N : Nat} {ad ln : Nat → Nat} {A : gM} {sz : Nat} {av : List gV} : FrameBlind (g_preX D g N ad ln A sz av) := fun a U q mk h => by
  obtain ⟨q0, q1, qP, qK, qD, qX, qZ1, qZ2⟩ := h
  exact ⟨q0, q1, qP, va_K.moved (u := U) (U := U.calling q mk a) (Vm.Alike.refl U.vm) qK, qD, qX.same rfl, vx_Zq.moved (u := U) (U := U.calling q mk a) (Vm.Alike.refl U.vm) qZ1, vx_Zq.moved (u := U) (U := U.calling q mk a) (Vm.Alike.refl U.vm) qZ2⟩
def g_XC (D : va_G) (g : gT) (N : Nat) (ad ln : Nat → Nat) (A : gM) (sz : Nat) (A' : gM) (res : Int32 ⊕ Nat) : String → State → State → Prop :=
  vx_X (S := Unit) (fun _ => True) (fun E _ t => ∃ k, res = .inr k ∧ E = g_xn k ∧ g_B D g N ad ln A A' sz t) (va_A (gw g ad ln A N) sz)
def g_QXi (D : va_G) (g : gT) (N : Nat) (ad ln : Nat → Nat) (A : gM) (sz : Nat) (A' : gM) (res : Int32 ⊕ Nat) : Array Value → State → Outcome → State → Prop :=
  va_Qi (S := Unit) (fun x _ => res = .inl x) (fun _ t => g_B D g N ad ln A A' sz t) (va_A (gw g ad ln A N) sz)
def g_QXv (D : va_G) (g : gT) (N : Nat) (ad ln : Nat → Nat) (A : gM) (sz : Nat) (A' : gM) (res : Int32 ⊕ Nat) : Array Value → State → Outcome → State → Prop :=
  va_Qv (S := Unit) (fun _ => res = .inl 0) (fun _ t => g_B D g N ad ln A A' sz t) (va_A (gw g ad ln A N) sz)
def gXi (l : Launch) (y : MethodName) (b : ByteArray) (nl : Nat) (rt : Option FieldType) (d cc : Nat) (D : va_G) (g : gT) (N : Nat) (ad ln : Nat → Nat) (A : gM) (av : List gV) (A' : gM) (res : Int32 ⊕ Nat) : Prop :=
  ∀ sz, vx_Met l y (g_ws y b nl rt) (g_rmx d cc (6 * cc)) (g_preX D g N ad ln A sz av) (g_QXi D g N ad ln A sz A' res) (g_XC D g N ad ln A sz A' res) cc (6 * cc) (va_A (gw g ad ln A N) sz)
def gXv (l : Launch) (y : MethodName) (b : ByteArray) (nl : Nat) (rt : Option FieldType) (d cc : Nat) (D : va_G) (g : gT) (N : Nat) (ad ln : Nat → Nat) (A : gM) (av : List gV) (A' : gM) (res : Int32 ⊕ Nat) : Prop :=
  ∀ sz, vx_Met l y (g_ws y b nl rt) (g_rmx d cc (6 * cc)) (g_preX D g N ad ln A sz av) (g_QXv D g N ad ln A sz A' res) (g_XC D g N ad ln A sz A' res) cc (6 * cc) (va_A (gw g ad ln A N) sz)
/-- the result of a call that may throw goes on only where it answers -/
def g_tr {β : Type} (q : gM × (Int32 ⊕ Nat)) (f : Int32 → Option (gM × (β ⊕ Nat))) : Option (gM × (β ⊕ Nat)) := match q.2 with
  | .inl r => f r
  | .inr k => some (q.1, .inr k)
theorem g_trx {β : Type} {q : gM × (Int32 ⊕ Nat)} {f : Int32 → Option (gM × (β ⊕ Nat))} {A' : gM} {res : β ⊕ Nat} {k : Nat} (h : g_tr q f = some (A', res)) (hk : q.2 = .inr k) : q.1 = A' ∧ res = .inr k := by
  unfold g_tr at h
  rw [hk] at h
  have := Option.some.inj h
  exact ⟨(Prod.mk.inj this).1, (Prod.mk.inj this).2.symm⟩
theorem g_trr {β : Type} {q : gM × (Int32 ⊕ Nat)} {f : Int32 → Option (gM × (β ⊕ Nat))} {x : gM × (β ⊕ Nat)} {r : Int32} (h : g_tr q f = some x) (hk : q.2 = .inl r) : f r = some x := by
  unfold g_tr at h
  rw [hk] at h
  exact h
section GX
variable {p : Program} {l : Launch} {e : Env} {R : Room} {s : State} {m : MethodId} {args : Array Value} {below : List Frame} {meth : Method} {c : Code} {Q : State → Prop} {nL : Nat} {D : va_G} {g : gT} {As : Nat → Prop} {N : Nat} {ad ln : Nat → Nat} {A A' A1 A0 : gM} {loc loc' : List (Nat × gV)} {k n pc : Nat} {st : List gV} {cc : ByteArray} {own : String} {d mc : Nat}
/-- what stays besides, in a method that may throw -/
def gCX (l : Launch) (s : State) (c : Code) (As : Nat → Prop) : Prop := l.stackTraces = false ∧ gX s ∧ gZ As s s.heap ∧ ∀ x ∈ c.exceptionTable.toList, False
theorem g_widen {k2 n2 : Nat} (h1 : k ≤ k2) (h2 : n ≤ n2) (kk : gJ p l e R s m args below meth c Q nL D g As N ad ln A loc k2 n2 pc st) : gJ p l e R s m args below meth c Q nL D g As N ad ln A loc k n pc st := fun H locs ls hP hD hS hl => W.widen (k := k2) (n := n2) h1 h2 (kk H locs ls hP hD hS hl)
theorem g_zNow {H : Heap} {locs : List Loc} {U : State} (hC : gZ As s s.heap) (hA : ∀ q : Nat, s.heap.size ≤ q → As q) (hD : va_D As (gw g ad ln A N)) (hS : va_S As s.heap H locs) (hW : s.vm.Alike U.vm) : gZ (va_A (gw g ad ln A N) H.size) U H := by
  have hF := g_frees hD hS hA
  exact ⟨((hC.1.kept (fun a h1 h2 => hS.2.1 a h1 h2)).narrow hF).moved hW, ((hC.2.kept (fun a h1 h2 => hS.2.1 a h1 h2)).narrow hF).moved hW⟩
/-- where a method that may throw must come -/
def gEXi (below : List Frame) (D : va_G) (g : gT) (N : Nat) (ad ln : Nat → Nat) (A A' : gM) (res : Int32 ⊕ Nat) (mc : Nat) (args : Array Value) (s : State) : State → Prop := vx_MQ below (g_QXi D g N ad ln A s.heap.size A' res) (g_XC D g N ad ln A s.heap.size A' res) args s mc (6 * mc) (va_A (gw g ad ln A N) s.heap.size)
theorem g_metXi {y : MethodName} {b : ByteArray} {nl : Nat} {rt : Option FieldType} {av : List gV} {res : Int32 ⊕ Nat} (hl : l.stackTraces = false) (hpl : plainName y.cls = true) (hlen : (av.map g_cat).foldr (fun c n => (if c = 2 then 2 else 1) + n) 0 ≤ nl)
    (body : ∀ (p : Program) (e : Env) (s : State) (m : MethodId) (args : Array Value) (below : List Frame) (meth : Method) (c : Code), gC p (g_rmx d mc (6 * mc)) s m args meth c b y.cls nl D g (va_A (gw g ad ln A N) s.heap.size) d → gCX l s c (va_A (gw g ad ln A N) s.heap.size) → meth.sig.returnType = rt → gJ p l e (g_rmx d mc (6 * mc)) s m args below meth c (gEXi below D g N ad ln A A' res mc args s) nl D g (va_A (gw g ad ln A N) s.heap.size) N ad ln A (g_args 0 av) 0 0 0 []) : gXi l y b nl rt d mc D g N ad ln A av A' res := by
  intro sz
  refine vx_ofW (cc := b) (maxL := nl) (ret := rt) hpl rfl ?_
  intro p e s m args below meth c s₁ B hml hex hv
  obtain ⟨rfl, hsz, hP, hK, hD0, hX, hZ⟩ := hv
  subst hsz
  have hts := atoms_spec (ws := g_ws y b nl rt) B.pre
  have hown : s.vm.findClass y.cls = some m.cls := findClass_of_methodNamed B.named
  have hl2 := lv_entry (av.map (g_v ad)) (n := nl) (by rw [g_sl_len]; exact hlen)
  rw [lg_entry_eq]
  rw [g_args_map] at hl2
  exact body p e s m _ below meth c ⟨B.exec, B.bytes, hml, hown, fun w hw => hts w (List.mem_cons_of_mem _ hw), hK, fun q h => Or.inr h, B.notSynchronized, Nat.le_refl _, Nat.le_refl _⟩ ⟨hl, hX, hZ, hex⟩ B.returns s.heap [] _ hP hD0.self va_S.rf hl2
/-- where a method that may throw must come -/
def gEXv (below : List Frame) (D : va_G) (g : gT) (N : Nat) (ad ln : Nat → Nat) (A A' : gM) (res : Int32 ⊕ Nat) (mc : Nat) (args : Array Value) (s : State) : State → Prop := vx_MQ below (g_QXv D g N ad ln A s.heap.size A' res) (g_XC D g N ad ln A s.heap.size A' res) args s mc (6 * mc) (va_A (gw g ad ln A N) s.heap.size)
theorem g_metXv {y : MethodName} {b : ByteArray} {nl : Nat} {rt : Option FieldType} {av : List gV} {res : Int32 ⊕ Nat} (hl : l.stackTraces = false) (hpl : plainName y.cls = true) (hlen : (av.map g_cat).foldr (fun c n => (if c = 2 then 2 else 1) + n) 0 ≤ nl)
    (body : ∀ (p : Program) (e : Env) (s : State) (m : MethodId) (args : Array Value) (below : List Frame) (meth : Method) (c : Code), gC p (g_rmx d mc (6 * mc)) s m args meth c b y.cls nl D g (va_A (gw g ad ln A N) s.heap.size) d → gCX l s c (va_A (gw g ad ln A N) s.heap.size) → meth.sig.returnType = rt → gJ p l e (g_rmx d mc (6 * mc)) s m args below meth c (gEXv below D g N ad ln A A' res mc args s) nl D g (va_A (gw g ad ln A N) s.heap.size) N ad ln A (g_args 0 av) 0 0 0 []) : gXv l y b nl rt d mc D g N ad ln A av A' res := by
  intro sz
  refine vx_ofW (cc := b) (maxL := nl) (ret := rt) hpl rfl ?_
  intro p e s m args below meth c s₁ B hml hex hv
  obtain ⟨rfl, hsz, hP, hK, hD0, hX, hZ⟩ := hv
  subst hsz
  have hts := atoms_spec (ws := g_ws y b nl rt) B.pre
  have hown : s.vm.findClass y.cls = some m.cls := findClass_of_methodNamed B.named
  have hl2 := lv_entry (av.map (g_v ad)) (n := nl) (by rw [g_sl_len]; exact hlen)
  rw [lg_entry_eq]
  rw [g_args_map] at hl2
  exact body p e s m _ below meth c ⟨B.exec, B.bytes, hml, hown, fun w hw => hts w (List.mem_cons_of_mem _ hw), hK, fun q h => Or.inr h, B.notSynchronized, Nat.le_refl _, Nat.le_refl _⟩ ⟨hl, hX, hZ, hex⟩ B.returns s.heap [] _ hP hD0.self va_S.rf hl2
theorem g_retXi (C : gC p R s m args meth c cc own nL D g (va_A (gw g ad ln A N) s.heap.size) d) {r : Int32} {res : Int32 ⊕ Nat} (hres : res = .inl r) (hk : k ≤ mc) (hn : n ≤ 6 * mc) (hr : meth.sig.returnType = some .int) (hdg : decode cc pc = .ok (.ireturn, 1)) : gJ p l e R s m args below meth c (gEXi below D g N ad ln A A' res mc args s) nL D g (va_A (gw g ad ln A N) s.heap.size) N ad ln A' loc k n pc [gi r] := fun H locs ls hP hD hS hl => W.widen (k := mc) (n := 6 * mc) hk hn (vx_ret (W.iret (v := r) C.1 C.2.1 hr (fun t ht hW => ⟨⟨r, (), rfl, hres, by rw [ht]; exact hP, va_K.moved hW.alike C.2.2.2.2.2.1, hD⟩, hS.F ht⟩) hS.2.2 hdg C.2.2.2.2.2.2.2.1))
theorem g_retXv (C : gC p R s m args meth c cc own nL D g (va_A (gw g ad ln A N) s.heap.size) d) {res : Int32 ⊕ Nat} (hres : res = .inl 0) (hk : k ≤ mc) (hn : n ≤ 6 * mc) (hr : meth.sig.returnType = none) (hdg : decode cc pc = .ok (.return_, 1)) : gJ p l e R s m args below meth c (gEXv below D g N ad ln A A' res mc args s) nL D g (va_A (gw g ad ln A N) s.heap.size) N ad ln A' loc k n pc [] := fun H locs ls hP hD hS hl => W.widen (k := mc) (n := 6 * mc) hk hn (vx_ret (W.vret C.1 C.2.1 hr (fun t ht hW => ⟨⟨(), rfl, hres, by rw [ht]; exact hP, va_K.moved hW.alike C.2.2.2.2.2.1, hD⟩, hS.F ht⟩) hS.2.2 hdg C.2.2.2.2.2.2.2.1))
theorem g_retXz (C : gC p R s m args meth c cc own nL D g (va_A (gw g ad ln A N) s.heap.size) d) {r : Int32} {res : Int32 ⊕ Nat} (hres : res = .inl r) (hk : k ≤ mc) (hn : n ≤ 6 * mc) (hr : meth.sig.returnType = some .boolean) (hz : r = 0 ∨ r = 1) (hdg : decode cc pc = .ok (.ireturn, 1)) : gJ p l e R s m args below meth c (gEXi below D g N ad ln A A' res mc args s) nL D g (va_A (gw g ad ln A N) s.heap.size) N ad ln A' loc k n pc [gi r] := fun H locs ls hP hD hS hl => W.widen (k := mc) (n := 6 * mc) hk hn (vx_ret (W.zret (v := r) C.1 C.2.1 hr (by rcases hz with rfl | rfl <;> rfl) (fun t ht hW => ⟨⟨r, (), rfl, hres, by rw [ht]; exact hP, va_K.moved hW.alike C.2.2.2.2.2.1, hD⟩, hS.F ht⟩) hS.2.2 hdg C.2.2.2.2.2.2.2.1))
theorem g_calliXi (C : gC p R s m args meth c cc own nL D g (va_A (gw g ad ln A0 N) s.heap.size) d) (CX : gCX l s c (va_A (gw g ad ln A0 N) s.heap.size)) (i : Nat) (as : List gV) {st0 : List gV} {Cn : String} {ci ix np mL d' c1 : Nat} {z : MethodName} {b : ByteArray} {rt : Option FieldType} {fs : List Value} {T : u_T} {Nn : Nat} {res1 res : Int32 ⊕ Nat} (hM : gXi l z b mL rt d' c1 D g N ad ln A (gr i :: as) A1 res1) (hs : g_site own Cn ix z b mL rt np) (hd : d' + 1 ≤ d) (hi : i < N) (he : g_ce g ad (g_ln ln i) (A i) i = .inr (ci, fs)) (hc : vwCl[ci]? = some (Cn, T, Nn)) (hn : as.length = np) (hst : st0 = as.reverse ++ gr i :: st) (hcat : (st.map g_cat).sum ≤ 8) (hk1 : k + c1 ≤ R.cells ∧ n + 6 * c1 ≤ R.slots) (hkm : k + c1 ≤ mc ∧ n + 6 * c1 ≤ 6 * mc) (hdg : decode cc pc = .ok (.invokevirtual ix, 3)) (hx : ∀ k, res1 = .inr k → A1 = A' ∧ res = .inr k) (kk : ∀ r : Int32, res1 = .inl r → gJ p l e R s m args below meth c (gEXi below D g N ad ln A0 A' res mc args s) nL D g (va_A (gw g ad ln A0 N) s.heap.size) N ad ln A1 loc (k + c1) (n + 6 * c1) (pc + 3) (gi r :: st)) : gJ p l e R s m args below meth c (gEXi below D g N ad ln A0 A' res mc args s) nL D g (va_A (gw g ad ln A0 N) s.heap.size) N ad ln A loc k n pc st0 := by
  intro H locs ls hP hD hS hl
  have hF := g_frees hD hS C.2.2.2.2.2.2.1
  refine vx_calli (vx_runV (C := Cn) (b := ad i) (As := as.map (g_v ad)) (rest := st.map (g_v ad)) ⟨C.1, C.2.1, C.2.2.1, C.2.2.2.1, C.2.2.2.2.1⟩ (hM H.size) (cwV np C.2.2.2.2.1 (g_goodV hs) rfl rfl rfl hs.2.2.2.2.2.1 (g_room C.2.2.2.2.2.2.2.2 hd hs.2.2.2.2.2.2)) ⟨g_blindX, va_recv C.2.2.2.2.2.1 hP (q0 := i) hc (by rw [gw_at hi, he]), fun U hU hW => ⟨rfl, by rw [hU], by rw [hU]; exact hP, va_K.moved hW.alike C.2.2.2.2.2.1, hD.weaken (fun _ _ _ _ => trivial), CX.2.1.warm hW, by rw [hU]; exact g_zNow CX.2.2.1 C.2.2.2.2.2.2.1 hD hS hW.alike⟩⟩ rfl (by rw [List.length_map]; exact hn) hl.1 (by show st0.map (g_v ad) = _; rw [hst]; simp [g_v]) (g_lv hcat) hdg ⟨hk1.1, hk1.2⟩) hS (fun q _ h => hF q h) hF (fun q _ h => hF q h) (fun E ce q9 u t H1 locs1 ht hvm hw hB hz1 hk1 hS hce hcv hcl => ?_) (fun r u t H1 locs1 ht hvm hw hB hz1 hk1 hS => ?_)
  · obtain ⟨j, hj, rfl, hP1, hK1, hD1⟩ := hB
    obtain ⟨rfl, hres⟩ := hx j hj
    rw [ht] at hP1
    refine vx_out (E := g_xn j) (fun x hx => absurd (CX.2.2.2 x hx) id) C.2.2.2.2.2.2.2.1 hce hcv hcl (fun t2 ht2 hW2 => ⟨(), trivial, ⟨j, hres, rfl, by rw [ht2]; exact hP1, va_K.moved hW2 C.2.2.2.2.2.1, hD1.weaken (fun _ _ _ h => hF _ h)⟩, hS.F ht2⟩) hS.2.2 hkm.1 hkm.2
  · obtain ⟨hP1, hK1, hD1⟩ := hB
    rw [ht] at hP1
    exact kk r hw H1 locs1 ls hP1 (hD1.weaken (fun _ _ _ h => hF _ h)) hS hl
theorem g_calliXv (C : gC p R s m args meth c cc own nL D g (va_A (gw g ad ln A0 N) s.heap.size) d) (CX : gCX l s c (va_A (gw g ad ln A0 N) s.heap.size)) (i : Nat) (as : List gV) {st0 : List gV} {Cn : String} {ci ix np mL d' c1 : Nat} {z : MethodName} {b : ByteArray} {rt : Option FieldType} {fs : List Value} {T : u_T} {Nn : Nat} {res1 res : Int32 ⊕ Nat} (hM : gXi l z b mL rt d' c1 D g N ad ln A (gr i :: as) A1 res1) (hs : g_site own Cn ix z b mL rt np) (hd : d' + 1 ≤ d) (hi : i < N) (he : g_ce g ad (g_ln ln i) (A i) i = .inr (ci, fs)) (hc : vwCl[ci]? = some (Cn, T, Nn)) (hn : as.length = np) (hst : st0 = as.reverse ++ gr i :: st) (hcat : (st.map g_cat).sum ≤ 8) (hk1 : k + c1 ≤ R.cells ∧ n + 6 * c1 ≤ R.slots) (hkm : k + c1 ≤ mc ∧ n + 6 * c1 ≤ 6 * mc) (hdg : decode cc pc = .ok (.invokevirtual ix, 3)) (hx : ∀ k, res1 = .inr k → A1 = A' ∧ res = .inr k) (kk : ∀ r : Int32, res1 = .inl r → gJ p l e R s m args below meth c (gEXv below D g N ad ln A0 A' res mc args s) nL D g (va_A (gw g ad ln A0 N) s.heap.size) N ad ln A1 loc (k + c1) (n + 6 * c1) (pc + 3) (gi r :: st)) : gJ p l e R s m args below meth c (gEXv below D g N ad ln A0 A' res mc args s) nL D g (va_A (gw g ad ln A0 N) s.heap.size) N ad ln A loc k n pc st0 := by
  intro H locs ls hP hD hS hl
  have hF := g_frees hD hS C.2.2.2.2.2.2.1
  refine vx_calli (vx_runV (C := Cn) (b := ad i) (As := as.map (g_v ad)) (rest := st.map (g_v ad)) ⟨C.1, C.2.1, C.2.2.1, C.2.2.2.1, C.2.2.2.2.1⟩ (hM H.size) (cwV np C.2.2.2.2.1 (g_goodV hs) rfl rfl rfl hs.2.2.2.2.2.1 (g_room C.2.2.2.2.2.2.2.2 hd hs.2.2.2.2.2.2)) ⟨g_blindX, va_recv C.2.2.2.2.2.1 hP (q0 := i) hc (by rw [gw_at hi, he]), fun U hU hW => ⟨rfl, by rw [hU], by rw [hU]; exact hP, va_K.moved hW.alike C.2.2.2.2.2.1, hD.weaken (fun _ _ _ _ => trivial), CX.2.1.warm hW, by rw [hU]; exact g_zNow CX.2.2.1 C.2.2.2.2.2.2.1 hD hS hW.alike⟩⟩ rfl (by rw [List.length_map]; exact hn) hl.1 (by show st0.map (g_v ad) = _; rw [hst]; simp [g_v]) (g_lv hcat) hdg ⟨hk1.1, hk1.2⟩) hS (fun q _ h => hF q h) hF (fun q _ h => hF q h) (fun E ce q9 u t H1 locs1 ht hvm hw hB hz1 hk1 hS hce hcv hcl => ?_) (fun r u t H1 locs1 ht hvm hw hB hz1 hk1 hS => ?_)
  · obtain ⟨j, hj, rfl, hP1, hK1, hD1⟩ := hB
    obtain ⟨rfl, hres⟩ := hx j hj
    rw [ht] at hP1
    refine vx_out (E := g_xn j) (fun x hx => absurd (CX.2.2.2 x hx) id) C.2.2.2.2.2.2.2.1 hce hcv hcl (fun t2 ht2 hW2 => ⟨(), trivial, ⟨j, hres, rfl, by rw [ht2]; exact hP1, va_K.moved hW2 C.2.2.2.2.2.1, hD1.weaken (fun _ _ _ h => hF _ h)⟩, hS.F ht2⟩) hS.2.2 hkm.1 hkm.2
  · obtain ⟨hP1, hK1, hD1⟩ := hB
    rw [ht] at hP1
    exact kk r hw H1 locs1 ls hP1 (hD1.weaken (fun _ _ _ h => hF _ h)) hS hl
theorem g_callvXi (C : gC p R s m args meth c cc own nL D g (va_A (gw g ad ln A0 N) s.heap.size) d) (CX : gCX l s c (va_A (gw g ad ln A0 N) s.heap.size)) (i : Nat) (as : List gV) {st0 : List gV} {Cn : String} {ci ix np mL d' c1 : Nat} {z : MethodName} {b : ByteArray} {rt : Option FieldType} {fs : List Value} {T : u_T} {Nn : Nat} {res1 res : Int32 ⊕ Nat} (hM : gXv l z b mL rt d' c1 D g N ad ln A (gr i :: as) A1 res1) (hs : g_site own Cn ix z b mL rt np) (hd : d' + 1 ≤ d) (hi : i < N) (he : g_ce g ad (g_ln ln i) (A i) i = .inr (ci, fs)) (hc : vwCl[ci]? = some (Cn, T, Nn)) (hn : as.length = np) (hst : st0 = as.reverse ++ gr i :: st) (hcat : (st.map g_cat).sum ≤ 8) (hk1 : k + c1 ≤ R.cells ∧ n + 6 * c1 ≤ R.slots) (hkm : k + c1 ≤ mc ∧ n + 6 * c1 ≤ 6 * mc) (hdg : decode cc pc = .ok (.invokevirtual ix, 3)) (hx : ∀ k, res1 = .inr k → A1 = A' ∧ res = .inr k) (kk : ∀ r : Int32, res1 = .inl r → gJ p l e R s m args below meth c (gEXi below D g N ad ln A0 A' res mc args s) nL D g (va_A (gw g ad ln A0 N) s.heap.size) N ad ln A1 loc (k + c1) (n + 6 * c1) (pc + 3) (st)) : gJ p l e R s m args below meth c (gEXi below D g N ad ln A0 A' res mc args s) nL D g (va_A (gw g ad ln A0 N) s.heap.size) N ad ln A loc k n pc st0 := by
  intro H locs ls hP hD hS hl
  have hF := g_frees hD hS C.2.2.2.2.2.2.1
  refine vx_callv (vx_runV (C := Cn) (b := ad i) (As := as.map (g_v ad)) (rest := st.map (g_v ad)) ⟨C.1, C.2.1, C.2.2.1, C.2.2.2.1, C.2.2.2.2.1⟩ (hM H.size) (cwV np C.2.2.2.2.1 (g_goodV hs) rfl rfl rfl hs.2.2.2.2.2.1 (g_room C.2.2.2.2.2.2.2.2 hd hs.2.2.2.2.2.2)) ⟨g_blindX, va_recv C.2.2.2.2.2.1 hP (q0 := i) hc (by rw [gw_at hi, he]), fun U hU hW => ⟨rfl, by rw [hU], by rw [hU]; exact hP, va_K.moved hW.alike C.2.2.2.2.2.1, hD.weaken (fun _ _ _ _ => trivial), CX.2.1.warm hW, by rw [hU]; exact g_zNow CX.2.2.1 C.2.2.2.2.2.2.1 hD hS hW.alike⟩⟩ rfl (by rw [List.length_map]; exact hn) hl.1 (by show st0.map (g_v ad) = _; rw [hst]; simp [g_v]) (g_lv hcat) hdg ⟨hk1.1, hk1.2⟩) hS (fun q _ h => hF q h) hF (fun q _ h => hF q h) (fun E ce q9 u t H1 locs1 ht hvm hw hB hz1 hk1 hS hce hcv hcl => ?_) (fun u t H1 locs1 ht hvm hw hB hz1 hk1 hS => ?_)
  · obtain ⟨j, hj, rfl, hP1, hK1, hD1⟩ := hB
    obtain ⟨rfl, hres⟩ := hx j hj
    rw [ht] at hP1
    refine vx_out (E := g_xn j) (fun x hx => absurd (CX.2.2.2 x hx) id) C.2.2.2.2.2.2.2.1 hce hcv hcl (fun t2 ht2 hW2 => ⟨(), trivial, ⟨j, hres, rfl, by rw [ht2]; exact hP1, va_K.moved hW2 C.2.2.2.2.2.1, hD1.weaken (fun _ _ _ h => hF _ h)⟩, hS.F ht2⟩) hS.2.2 hkm.1 hkm.2
  · obtain ⟨hP1, hK1, hD1⟩ := hB
    rw [ht] at hP1
    exact kk 0 hw H1 locs1 ls hP1 (hD1.weaken (fun _ _ _ h => hF _ h)) hS hl
theorem g_callvXv (C : gC p R s m args meth c cc own nL D g (va_A (gw g ad ln A0 N) s.heap.size) d) (CX : gCX l s c (va_A (gw g ad ln A0 N) s.heap.size)) (i : Nat) (as : List gV) {st0 : List gV} {Cn : String} {ci ix np mL d' c1 : Nat} {z : MethodName} {b : ByteArray} {rt : Option FieldType} {fs : List Value} {T : u_T} {Nn : Nat} {res1 res : Int32 ⊕ Nat} (hM : gXv l z b mL rt d' c1 D g N ad ln A (gr i :: as) A1 res1) (hs : g_site own Cn ix z b mL rt np) (hd : d' + 1 ≤ d) (hi : i < N) (he : g_ce g ad (g_ln ln i) (A i) i = .inr (ci, fs)) (hc : vwCl[ci]? = some (Cn, T, Nn)) (hn : as.length = np) (hst : st0 = as.reverse ++ gr i :: st) (hcat : (st.map g_cat).sum ≤ 8) (hk1 : k + c1 ≤ R.cells ∧ n + 6 * c1 ≤ R.slots) (hkm : k + c1 ≤ mc ∧ n + 6 * c1 ≤ 6 * mc) (hdg : decode cc pc = .ok (.invokevirtual ix, 3)) (hx : ∀ k, res1 = .inr k → A1 = A' ∧ res = .inr k) (kk : ∀ r : Int32, res1 = .inl r → gJ p l e R s m args below meth c (gEXv below D g N ad ln A0 A' res mc args s) nL D g (va_A (gw g ad ln A0 N) s.heap.size) N ad ln A1 loc (k + c1) (n + 6 * c1) (pc + 3) (st)) : gJ p l e R s m args below meth c (gEXv below D g N ad ln A0 A' res mc args s) nL D g (va_A (gw g ad ln A0 N) s.heap.size) N ad ln A loc k n pc st0 := by
  intro H locs ls hP hD hS hl
  have hF := g_frees hD hS C.2.2.2.2.2.2.1
  refine vx_callv (vx_runV (C := Cn) (b := ad i) (As := as.map (g_v ad)) (rest := st.map (g_v ad)) ⟨C.1, C.2.1, C.2.2.1, C.2.2.2.1, C.2.2.2.2.1⟩ (hM H.size) (cwV np C.2.2.2.2.1 (g_goodV hs) rfl rfl rfl hs.2.2.2.2.2.1 (g_room C.2.2.2.2.2.2.2.2 hd hs.2.2.2.2.2.2)) ⟨g_blindX, va_recv C.2.2.2.2.2.1 hP (q0 := i) hc (by rw [gw_at hi, he]), fun U hU hW => ⟨rfl, by rw [hU], by rw [hU]; exact hP, va_K.moved hW.alike C.2.2.2.2.2.1, hD.weaken (fun _ _ _ _ => trivial), CX.2.1.warm hW, by rw [hU]; exact g_zNow CX.2.2.1 C.2.2.2.2.2.2.1 hD hS hW.alike⟩⟩ rfl (by rw [List.length_map]; exact hn) hl.1 (by show st0.map (g_v ad) = _; rw [hst]; simp [g_v]) (g_lv hcat) hdg ⟨hk1.1, hk1.2⟩) hS (fun q _ h => hF q h) hF (fun q _ h => hF q h) (fun E ce q9 u t H1 locs1 ht hvm hw hB hz1 hk1 hS hce hcv hcl => ?_) (fun u t H1 locs1 ht hvm hw hB hz1 hk1 hS => ?_)
  · obtain ⟨j, hj, rfl, hP1, hK1, hD1⟩ := hB
    obtain ⟨rfl, hres⟩ := hx j hj
    rw [ht] at hP1
    refine vx_out (E := g_xn j) (fun x hx => absurd (CX.2.2.2 x hx) id) C.2.2.2.2.2.2.2.1 hce hcv hcl (fun t2 ht2 hW2 => ⟨(), trivial, ⟨j, hres, rfl, by rw [ht2]; exact hP1, va_K.moved hW2 C.2.2.2.2.2.1, hD1.weaken (fun _ _ _ h => hF _ h)⟩, hS.F ht2⟩) hS.2.2 hkm.1 hkm.2
  · obtain ⟨hP1, hK1, hD1⟩ := hB
    rw [ht] at hP1
    exact kk 0 hw H1 locs1 ls hP1 (hD1.weaken (fun _ _ _ h => hF _ h)) hS hl
theorem g_throwi (C : gC p R s m args meth c cc own nL D g (va_A (gw g ad ln A0 N) s.heap.size) d) (CX : gCX l s c (va_A (gw g ad ln A0 N) s.heap.size)) {ik ic : Nat} {res : Int32 ⊕ Nat} (j : Nat) (hj : j < 3) (hk : Cond.classLink own ik (g_xn j) ∈ gtb) (hini : Cond.initialized (g_xn j) ∈ gtb) (hgd : ∀ w ∈ (vx_at0 own ic (g_xn j) ["java/lang/RuntimeException", "java/lang/Exception"]).filter goodWord, w ∈ gtb) (hng : ∀ w ∈ (vx_at0 own ic (g_xn j) ["java/lang/RuntimeException", "java/lang/Exception"]).filter (fun w => !goodWord w), w ∈ gxw) (hot : ∀ w ∈ Cond.classLink own ik (g_xn j) :: Cond.initialized (g_xn j) :: vx_at0 own ic (g_xn j) ["java/lang/RuntimeException", "java/lang/Exception"], vx_ot w = true) (hres : res = .inr j) (hd : 6 ≤ d) (hcat : (st.map g_cat).sum ≤ 8) (hkr : k + 1 ≤ R.cells ∧ n + 6 ≤ R.slots) (hkm : k + 1 ≤ mc ∧ n + 6 ≤ 6 * mc)
    (d0 : decode cc pc = .ok (.new ik, 3)) (d3 : decode cc (pc + 3) = .ok (.dup, 1)) (d4 : decode cc (pc + 4) = .ok (.invokespecial ic, 3)) (d7 : decode cc (pc + 7) = .ok (.athrow, 1)) : gJ p l e R s m args below meth c (gEXi below D g N ad ln A0 A res mc args s) nL D g (va_A (gw g ad ln A0 N) s.heap.size) N ad ln A loc k n pc st := by
  intro H locs ls hP hD hS hl
  have hfit : Bundle.fit (g_xn j) = true := by
    match j, hj with
    | 0, _ => decide +kernel
    | 1, _ => decide +kernel
    | 2, _ => decide +kernel
  refine vx_throw0 (A := va_A (gw g ad ln A0 N) s.heap.size) (names := ["java/lang/RuntimeException", "java/lang/Exception"]) C.1 C.2.1 CX.1 C.2.2.2.1 hfit (by decide +kernel) (C.2.2.2.2.1 _ hk) (C.2.2.2.2.1 _ hini) (vx_hat (B := gxw) (fun w hw => C.2.2.2.2.1 w (hgd w hw)) hng (fun w hw => va_Nw.use (gX_tab w hw) (CX.2.1 w hw))) hot CX.2.2.1.1 CX.2.2.1.2 hS (by rw [C.2.2.1]; exact hl.1) d0 d3 d4 d7 (fun x hx => absurd (CX.2.2.2 x hx) id) (by have := C.2.2.2.2.2.2.2.2.1; simp; omega) (by have h1 := g_lv (ad := ad) hcat; have := C.2.2.2.2.2.2.2.2.2; simp at h1 ⊢; omega) hkr.1 hkr.2 C.2.2.2.2.2.2.2.1 ?_ hS.2.2 hkm.1 hkm.2
  intro t hvm hsz hkp
  have hP1 : va_P D vwCl (gw g ad ln A N) t.heap := hP.kept (fun k q hq => hkp q.1 (hP k q hq).lt)
  exact ⟨(), trivial, ⟨j, hres, rfl, hP1, va_K.moved hvm C.2.2.2.2.2.1, hD⟩, Nat.le_trans hS.1 hsz, fun q h1 h2 => by rw [hkp q (Nat.lt_of_lt_of_le h1 hS.1)]; exact hS.2.1 q h1 h2⟩
theorem g_throwv (C : gC p R s m args meth c cc own nL D g (va_A (gw g ad ln A0 N) s.heap.size) d) (CX : gCX l s c (va_A (gw g ad ln A0 N) s.heap.size)) {ik ic : Nat} {res : Int32 ⊕ Nat} (j : Nat) (hj : j < 3) (hk : Cond.classLink own ik (g_xn j) ∈ gtb) (hini : Cond.initialized (g_xn j) ∈ gtb) (hgd : ∀ w ∈ (vx_at0 own ic (g_xn j) ["java/lang/RuntimeException", "java/lang/Exception"]).filter goodWord, w ∈ gtb) (hng : ∀ w ∈ (vx_at0 own ic (g_xn j) ["java/lang/RuntimeException", "java/lang/Exception"]).filter (fun w => !goodWord w), w ∈ gxw) (hot : ∀ w ∈ Cond.classLink own ik (g_xn j) :: Cond.initialized (g_xn j) :: vx_at0 own ic (g_xn j) ["java/lang/RuntimeException", "java/lang/Exception"], vx_ot w = true) (hres : res = .inr j) (hd : 6 ≤ d) (hcat : (st.map g_cat).sum ≤ 8) (hkr : k + 1 ≤ R.cells ∧ n + 6 ≤ R.slots) (hkm : k + 1 ≤ mc ∧ n + 6 ≤ 6 * mc)
    (d0 : decode cc pc = .ok (.new ik, 3)) (d3 : decode cc (pc + 3) = .ok (.dup, 1)) (d4 : decode cc (pc + 4) = .ok (.invokespecial ic, 3)) (d7 : decode cc (pc + 7) = .ok (.athrow, 1)) : gJ p l e R s m args below meth c (gEXv below D g N ad ln A0 A res mc args s) nL D g (va_A (gw g ad ln A0 N) s.heap.size) N ad ln A loc k n pc st := by
  intro H locs ls hP hD hS hl
  have hfit : Bundle.fit (g_xn j) = true := by
    match j, hj with
    | 0, _ => decide +kernel
    | 1, _ => decide +kernel
    | 2, _ => decide +kernel
  refine vx_throw0 (A := va_A (gw g ad ln A0 N) s.heap.size) (names := ["java/lang/RuntimeException", "java/lang/Exception"]) C.1 C.2.1 CX.1 C.2.2.2.1 hfit (by decide +kernel) (C.2.2.2.2.1 _ hk) (C.2.2.2.2.1 _ hini) (vx_hat (B := gxw) (fun w hw => C.2.2.2.2.1 w (hgd w hw)) hng (fun w hw => va_Nw.use (gX_tab w hw) (CX.2.1 w hw))) hot CX.2.2.1.1 CX.2.2.1.2 hS (by rw [C.2.2.1]; exact hl.1) d0 d3 d4 d7 (fun x hx => absurd (CX.2.2.2 x hx) id) (by have := C.2.2.2.2.2.2.2.2.1; simp; omega) (by have h1 := g_lv (ad := ad) hcat; have := C.2.2.2.2.2.2.2.2.2; simp at h1 ⊢; omega) hkr.1 hkr.2 C.2.2.2.2.2.2.2.1 ?_ hS.2.2 hkm.1 hkm.2
  intro t hvm hsz hkp
  have hP1 : va_P D vwCl (gw g ad ln A N) t.heap := hP.kept (fun k q hq => hkp q.1 (hP k q hq).lt)
  exact ⟨(), trivial, ⟨j, hres, rfl, hP1, va_K.moved hvm C.2.2.2.2.2.1, hD⟩, Nat.le_trans hS.1 hsz, fun q h1 h2 => by rw [hkp q (Nat.lt_of_lt_of_le h1 hS.1)]; exact hS.2.1 q h1 h2⟩
end GX
