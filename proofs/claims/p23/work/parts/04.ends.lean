/-! A METHOD'S ENTRY AND ITS ENDS -/
def g_args : Nat → List gV → List (Nat × gV)
  | _, [] => []
  | i, v :: vs => (i, v) :: g_args (if g_cat v = 2 then i + 2 else i + 1) vs
theorem g_args_map {ad : Nat → Nat} : ∀ (av : List gV) (i : Nat), lv_args i (av.map (g_v ad)) = (g_args i av).map (g_q ad)
  | [], _ => rfl
  | v :: vs, i => by
    show (i, g_v ad v) :: lv_args (if (g_v ad v).category = 2 then i + 2 else i + 1) (vs.map (g_v ad)) = _
    rw [g_cat_v, g_args_map vs]
    rfl
theorem g_sl_len {ad : Nat → Nat} : ∀ (av : List gV), (lg_sl (av.map (g_v ad))).length = (av.map g_cat).foldr (fun c n => (if c = 2 then 2 else 1) + n) 0
  | [] => rfl
  | v :: vs => by
    show (((if (g_v ad v).category = 2 then [Slot.val (g_v ad v), .second] else [.val (g_v ad v)]) : List Slot) ++ lg_sl (vs.map (g_v ad))).length = (if g_cat v = 2 then 2 else 1) + (vs.map g_cat).foldr (fun c n => (if c = 2 then 2 else 1) + n) 0
    rw [List.length_append, g_sl_len vs, g_cat_v]
    split <;> rfl
section GE
variable {p : Program} {l : Launch} {e : Env} {R : Room} {s : State} {m : MethodId} {args : Array Value} {below : List Frame} {meth : Method} {c : Code} {Q : State → Prop} {nL : Nat} {D : va_G} {g : gT} {As : Nat → Prop} {N : Nat} {ad ln : Nat → Nat} {A A' : gM} {loc loc' : List (Nat × gV)} {k n pc : Nat} {st : List gV} {cc : ByteArray} {own : String} {d : Nat}
/-- where a method that answers must come -/
def gEi (below : List Frame) (D : va_G) (g : gT) (N : Nat) (ad ln : Nat → Nat) (A A' : gM) (r : Int32) (args : Array Value) (s : State) : State → Prop := MQ below (g_Qi D g N ad ln A s.heap.size A' r) args s 0 0 (va_A (gw g ad ln A N) s.heap.size)
theorem g_meti {y : MethodName} {b : ByteArray} {nl : Nat} {rt : Option FieldType} {av : List gV} {r : Int32} (hpl : plainName y.cls = true) (hlen : (av.map g_cat).foldr (fun c n => (if c = 2 then 2 else 1) + n) 0 ≤ nl)
    (body : ∀ (p : Program) (e : Env) (s : State) (m : MethodId) (args : Array Value) (below : List Frame) (meth : Method) (c : Code), gC p (g_rm d) s m args meth c b y.cls nl D g (va_A (gw g ad ln A N) s.heap.size) d → meth.sig.returnType = rt → gJ p l e (g_rm d) s m args below meth c (gEi below D g N ad ln A A' r args s) nl D g (va_A (gw g ad ln A N) s.heap.size) N ad ln A (g_args 0 av) 0 0 0 []) : gKi l y b nl rt d D g N ad ln A av A' r := by
  intro sz
  refine Met.ofW (cc := b) (maxL := nl) (ret := rt) hpl rfl ?_
  intro p e s m args below meth c s₁ B hml hv
  obtain ⟨rfl, hsz, hP, hK, hD0⟩ := hv
  subst hsz
  have hts := atoms_spec (ws := g_ws y b nl rt) B.pre
  have hown : s.vm.findClass y.cls = some m.cls := findClass_of_methodNamed B.named
  have hl := lv_entry (av.map (g_v ad)) (n := nl) (by rw [g_sl_len]; exact hlen)
  rw [lg_entry_eq]
  rw [g_args_map] at hl
  exact body p e s m _ below meth c ⟨B.exec, B.bytes, hml, hown, fun w hw => hts w (List.mem_cons_of_mem _ hw), hK, fun q h => Or.inr h, B.notSynchronized, Nat.le_refl _, Nat.le_refl _⟩ B.returns s.heap [] _ hP hD0.self va_S.rf hl
/-- where a method that answers must come -/
def gEl (below : List Frame) (D : va_G) (g : gT) (N : Nat) (ad ln : Nat → Nat) (A A' : gM) (r : Int64) (args : Array Value) (s : State) : State → Prop := MQ below (g_Ql D g N ad ln A s.heap.size A' r) args s 0 0 (va_A (gw g ad ln A N) s.heap.size)
theorem g_metl {y : MethodName} {b : ByteArray} {nl : Nat} {rt : Option FieldType} {av : List gV} {r : Int64} (hpl : plainName y.cls = true) (hlen : (av.map g_cat).foldr (fun c n => (if c = 2 then 2 else 1) + n) 0 ≤ nl)
    (body : ∀ (p : Program) (e : Env) (s : State) (m : MethodId) (args : Array Value) (below : List Frame) (meth : Method) (c : Code), gC p (g_rm d) s m args meth c b y.cls nl D g (va_A (gw g ad ln A N) s.heap.size) d → meth.sig.returnType = rt → gJ p l e (g_rm d) s m args below meth c (gEl below D g N ad ln A A' r args s) nl D g (va_A (gw g ad ln A N) s.heap.size) N ad ln A (g_args 0 av) 0 0 0 []) : gKl l y b nl rt d D g N ad ln A av A' r := by
  intro sz
  refine Met.ofW (cc := b) (maxL := nl) (ret := rt) hpl rfl ?_
  intro p e s m args below meth c s₁ B hml hv
  obtain ⟨rfl, hsz, hP, hK, hD0⟩ := hv
  subst hsz
  have hts := atoms_spec (ws := g_ws y b nl rt) B.pre
  have hown : s.vm.findClass y.cls = some m.cls := findClass_of_methodNamed B.named
  have hl := lv_entry (av.map (g_v ad)) (n := nl) (by rw [g_sl_len]; exact hlen)
  rw [lg_entry_eq]
  rw [g_args_map] at hl
  exact body p e s m _ below meth c ⟨B.exec, B.bytes, hml, hown, fun w hw => hts w (List.mem_cons_of_mem _ hw), hK, fun q h => Or.inr h, B.notSynchronized, Nat.le_refl _, Nat.le_refl _⟩ B.returns s.heap [] _ hP hD0.self va_S.rf hl
/-- where a method that answers must come -/
def gEv (below : List Frame) (D : va_G) (g : gT) (N : Nat) (ad ln : Nat → Nat) (A A' : gM)  (args : Array Value) (s : State) : State → Prop := MQ below (g_Qv D g N ad ln A s.heap.size A') args s 0 0 (va_A (gw g ad ln A N) s.heap.size)
theorem g_metv {y : MethodName} {b : ByteArray} {nl : Nat} {rt : Option FieldType} {av : List gV}  (hpl : plainName y.cls = true) (hlen : (av.map g_cat).foldr (fun c n => (if c = 2 then 2 else 1) + n) 0 ≤ nl)
    (body : ∀ (p : Program) (e : Env) (s : State) (m : MethodId) (args : Array Value) (below : List Frame) (meth : Method) (c : Code), gC p (g_rm d) s m args meth c b y.cls nl D g (va_A (gw g ad ln A N) s.heap.size) d → meth.sig.returnType = rt → gJ p l e (g_rm d) s m args below meth c (gEv below D g N ad ln A A' args s) nl D g (va_A (gw g ad ln A N) s.heap.size) N ad ln A (g_args 0 av) 0 0 0 []) : gKv l y b nl rt d D g N ad ln A av A' := by
  intro sz
  refine Met.ofW (cc := b) (maxL := nl) (ret := rt) hpl rfl ?_
  intro p e s m args below meth c s₁ B hml hv
  obtain ⟨rfl, hsz, hP, hK, hD0⟩ := hv
  subst hsz
  have hts := atoms_spec (ws := g_ws y b nl rt) B.pre
  have hown : s.vm.findClass y.cls = some m.cls := findClass_of_methodNamed B.named
  have hl := lv_entry (av.map (g_v ad)) (n := nl) (by rw [g_sl_len]; exact hlen)
  rw [lg_entry_eq]
  rw [g_args_map] at hl
  exact body p e s m _ below meth c ⟨B.exec, B.bytes, hml, hown, fun w hw => hts w (List.mem_cons_of_mem _ hw), hK, fun q h => Or.inr h, B.notSynchronized, Nat.le_refl _, Nat.le_refl _⟩ B.returns s.heap [] _ hP hD0.self va_S.rf hl
/-- where a method that answers must come -/
def gEr (below : List Frame) (D : va_G) (g : gT) (N : Nat) (ad ln : Nat → Nat) (A A' : gM) (r : Nat) (args : Array Value) (s : State) : State → Prop := MQ below (g_Qr D g N ad ln A s.heap.size A' r) args s 0 0 (va_A (gw g ad ln A N) s.heap.size)
theorem g_metr {y : MethodName} {b : ByteArray} {nl : Nat} {rt : Option FieldType} {av : List gV} {r : Nat} (hpl : plainName y.cls = true) (hlen : (av.map g_cat).foldr (fun c n => (if c = 2 then 2 else 1) + n) 0 ≤ nl)
    (body : ∀ (p : Program) (e : Env) (s : State) (m : MethodId) (args : Array Value) (below : List Frame) (meth : Method) (c : Code), gC p (g_rm d) s m args meth c b y.cls nl D g (va_A (gw g ad ln A N) s.heap.size) d → meth.sig.returnType = rt → gJ p l e (g_rm d) s m args below meth c (gEr below D g N ad ln A A' r args s) nl D g (va_A (gw g ad ln A N) s.heap.size) N ad ln A (g_args 0 av) 0 0 0 []) : gKr l y b nl rt d D g N ad ln A av A' r := by
  intro sz
  refine Met.ofW (cc := b) (maxL := nl) (ret := rt) hpl rfl ?_
  intro p e s m args below meth c s₁ B hml hv
  obtain ⟨rfl, hsz, hP, hK, hD0⟩ := hv
  subst hsz
  have hts := atoms_spec (ws := g_ws y b nl rt) B.pre
  have hown : s.vm.findClass y.cls = some m.cls := findClass_of_methodNamed B.named
  have hl := lv_entry (av.map (g_v ad)) (n := nl) (by rw [g_sl_len]; exact hlen)
  rw [lg_entry_eq]
  rw [g_args_map] at hl
  exact body p e s m _ below meth c ⟨B.exec, B.bytes, hml, hown, fun w hw => hts w (List.mem_cons_of_mem _ hw), hK, fun q h => Or.inr h, B.notSynchronized, Nat.le_refl _, Nat.le_refl _⟩ B.returns s.heap [] _ hP hD0.self va_S.rf hl
theorem g_reti (C : gC p R s m args meth c cc own nL D g (va_A (gw g ad ln A N) s.heap.size) d) {r : Int32} (hr : meth.sig.returnType = some .int) (hdg : decode cc pc = .ok (.ireturn, 1)) : gJ p l e R s m args below meth c (gEi below D g N ad ln A A' r args s) nL D g (va_A (gw g ad ln A N) s.heap.size) N ad ln A' loc 0 0 pc [gi r] := fun H locs ls hP hD hS hl => W.iret (v := r) C.1 C.2.1 hr (fun t ht hW => ⟨⟨r, (), rfl, rfl, by rw [ht]; exact hP, va_K.moved hW.alike C.2.2.2.2.2.1, hD⟩, hS.F ht⟩) hS.2.2 hdg C.2.2.2.2.2.2.2.1
theorem g_retl (C : gC p R s m args meth c cc own nL D g (va_A (gw g ad ln A N) s.heap.size) d) {r : Int64} (hr : meth.sig.returnType = some .long) (hdg : decode cc pc = .ok (.lreturn, 1)) : gJ p l e R s m args below meth c (gEl below D g N ad ln A A' r args s) nL D g (va_A (gw g ad ln A N) s.heap.size) N ad ln A' loc 0 0 pc [gl r] := fun H locs ls hP hD hS hl => W.lret (v := r) C.1 C.2.1 hr (fun t ht hW => ⟨⟨r, (), rfl, rfl, by rw [ht]; exact hP, va_K.moved hW.alike C.2.2.2.2.2.1, hD⟩, hS.F ht⟩) hS.2.2 hdg C.2.2.2.2.2.2.2.1
theorem g_retv (C : gC p R s m args meth c cc own nL D g (va_A (gw g ad ln A N) s.heap.size) d)  (hr : meth.sig.returnType = none) (hdg : decode cc pc = .ok (.return_, 1)) : gJ p l e R s m args below meth c (gEv below D g N ad ln A A' args s) nL D g (va_A (gw g ad ln A N) s.heap.size) N ad ln A' loc 0 0 pc [] := fun H locs ls hP hD hS hl => W.vret C.1 C.2.1 hr (fun t ht hW => ⟨⟨(), rfl, trivial, by rw [ht]; exact hP, va_K.moved hW.alike C.2.2.2.2.2.1, hD⟩, hS.F ht⟩) hS.2.2 hdg C.2.2.2.2.2.2.2.1
theorem g_retz (C : gC p R s m args meth c cc own nL D g (va_A (gw g ad ln A N) s.heap.size) d) {r : Int32} (hr : meth.sig.returnType = some .boolean) (hz : r = 0 ∨ r = 1) (hdg : decode cc pc = .ok (.ireturn, 1)) : gJ p l e R s m args below meth c (gEi below D g N ad ln A A' r args s) nL D g (va_A (gw g ad ln A N) s.heap.size) N ad ln A' loc 0 0 pc [gi r] := fun H locs ls hP hD hS hl => W.zret (v := r) C.1 C.2.1 hr (by rcases hz with rfl | rfl <;> rfl) (fun t ht hW => ⟨⟨r, (), rfl, rfl, by rw [ht]; exact hP, va_K.moved hW.alike C.2.2.2.2.2.1, hD⟩, hS.F ht⟩) hS.2.2 hdg C.2.2.2.2.2.2.2.1
theorem g_retr (C : gC p R s m args meth c cc own nL D g (va_A (gw g ad ln A N) s.heap.size) d) {r : Nat} {rt : FieldType} (hr : meth.sig.returnType = some rt) (hrt : (∃ n, rt = .object n) ∨ ∃ t, rt = .array t) (hdg : decode cc pc = .ok (.areturn, 1)) : gJ p l e R s m args below meth c (gEr below D g N ad ln A A' r args s) nL D g (va_A (gw g ad ln A N) s.heap.size) N ad ln A' loc 0 0 pc [gr r] := fun H locs ls hP hD hS hl => W.aret (v := .ref (ad r)) C.1 C.2.1 hr hrt (Or.inr ⟨_, rfl⟩) (fun t ht hW => ⟨⟨(), ad r, rfl, trivial, rfl, by rw [ht]; exact hP, va_K.moved hW.alike C.2.2.2.2.2.1, hD⟩, hS.F ht⟩) hS.2.2 hdg C.2.2.2.2.2.2.2.1
theorem g_tableIn (C : gC p R s m args meth c cc own nL D g As d) {dflt lo hi : Int} {offs : Array Int} {len : Nat} {x : Int32} {off : Int} {tgt : Nat} (hdg : decode cc pc = .ok (.tableswitch dflt lo hi offs, len)) (h1 : ¬ x.toInt < lo) (h2 : ¬ hi < x.toInt) (ho : offs[(x.toInt - lo).toNat]? = some off) (ht : (pc : Int) + off = (tgt : Int)) (kk : gJ p l e R s m args below meth c Q nL D g As N ad ln A loc k n tgt st) : gJ p l e R s m args below meth c Q nL D g As N ad ln A loc k n pc (gi x :: st) := fun H locs ls hP hD hS hl => lv_tableIn C.1 C.2.1 hdg h1 h2 ho ht (kk H locs ls hP hD hS hl)
theorem g_tableOut (C : gC p R s m args meth c cc own nL D g As d) {dflt lo hi : Int} {offs : Array Int} {len : Nat} {x : Int32} {tgt : Nat} (hdg : decode cc pc = .ok (.tableswitch dflt lo hi offs, len)) (h : x.toInt < lo ∨ hi < x.toInt) (ht : (pc : Int) + dflt = (tgt : Int)) (kk : gJ p l e R s m args below meth c Q nL D g As N ad ln A loc k n tgt st) : gJ p l e R s m args below meth c Q nL D g As N ad ln A loc k n pc (gi x :: st) := fun H locs ls hP hD hS hl => lv_tableOut C.1 C.2.1 hdg h ht (kk H locs ls hP hD hS hl)
end GE
