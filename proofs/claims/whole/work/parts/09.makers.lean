/-! CONTRACTS of methods that make arrays: N cells before, the same behind (Ar: one more, the answer) -/
def g_BA (D : va_G) (g : gT) (N : Nat) (ad ln : Nat → Nat) (A : gM) (sz N2 : Nat) (A' : gM) (cp' : Nat) (u : (Nat → Nat) × (Nat → Nat)) (t : State) : Prop :=
  g_chg N ad ln u.1 u.2 cp' ∧ va_P D vwCl (gw g u.1 u.2 A' N2) t.heap ∧ va_K D vwCl (g_tys g) t ∧ va_D (va_A (gw g ad ln A N) sz) (gw g u.1 u.2 A' N2)
abbrev gU : Type := (Nat → Nat) × (Nat → Nat)
def g_QAi (D : va_G) (g : gT) (N : Nat) (ad ln : Nat → Nat) (A : gM) (sz : Nat) (A' : gM) (cp' : Nat) (r : Int32) : Array Value → State → Outcome → State → Prop :=
  va_Qi (S := gU) (fun x _ => x = r) (fun u t => g_BA D g N ad ln A sz N A' cp' u t) (va_A (gw g ad ln A N) sz)
def g_QAl (D : va_G) (g : gT) (N : Nat) (ad ln : Nat → Nat) (A : gM) (sz : Nat) (A' : gM) (cp' : Nat) (r : Int64) : Array Value → State → Outcome → State → Prop :=
  va_Ql (S := gU) (fun x _ => x = r) (fun u t => g_BA D g N ad ln A sz N A' cp' u t) (va_A (gw g ad ln A N) sz)
def g_QAv (D : va_G) (g : gT) (N : Nat) (ad ln : Nat → Nat) (A : gM) (sz : Nat) (A' : gM) (cp' : Nat) : Array Value → State → Outcome → State → Prop :=
  va_Qv (S := gU) (fun _ => True) (fun u t => g_BA D g N ad ln A sz N A' cp' u t) (va_A (gw g ad ln A N) sz)
def g_QAr (D : va_G) (g : gT) (N : Nat) (ad ln : Nat → Nat) (A : gM) (sz : Nat) (A' : gM) (cp' w : Nat) : Array Value → State → Outcome → State → Prop :=
  va_Qr (S := gU) (fun _ => True) (fun u a t => a = u.1 N ∧ u.2 N = w ∧ g_BA D g N ad ln A sz (N + 1) A' cp' u t) (va_A (gw g ad ln A N) sz)
def gAi (l : Launch) (y : MethodName) (b : ByteArray) (nl : Nat) (rt : Option FieldType) (d : Nat) (D : va_G) (g : gT) (N : Nat) (ad ln : Nat → Nat) (A : gM) (av : List gV) (A' : gM) (u : Nat × Nat × Nat) (r : Int32) : Prop :=
  ∀ sz, Met l y (g_ws y b nl rt) (g_rmx d u.2.1 u.2.2) (g_pre D g N ad ln A sz av) (g_QAi D g N ad ln A sz A' u.1 r) u.2.1 u.2.2 (va_A (gw g ad ln A N) sz)
def gAl (l : Launch) (y : MethodName) (b : ByteArray) (nl : Nat) (rt : Option FieldType) (d : Nat) (D : va_G) (g : gT) (N : Nat) (ad ln : Nat → Nat) (A : gM) (av : List gV) (A' : gM) (u : Nat × Nat × Nat) (r : Int64) : Prop :=
  ∀ sz, Met l y (g_ws y b nl rt) (g_rmx d u.2.1 u.2.2) (g_pre D g N ad ln A sz av) (g_QAl D g N ad ln A sz A' u.1 r) u.2.1 u.2.2 (va_A (gw g ad ln A N) sz)
def gAv (l : Launch) (y : MethodName) (b : ByteArray) (nl : Nat) (rt : Option FieldType) (d : Nat) (D : va_G) (g : gT) (N : Nat) (ad ln : Nat → Nat) (A : gM) (av : List gV) (A' : gM) (u : Nat × Nat × Nat)  : Prop :=
  ∀ sz, Met l y (g_ws y b nl rt) (g_rmx d u.2.1 u.2.2) (g_pre D g N ad ln A sz av) (g_QAv D g N ad ln A sz A' u.1) u.2.1 u.2.2 (va_A (gw g ad ln A N) sz)
def gAr (l : Launch) (y : MethodName) (b : ByteArray) (nl : Nat) (rt : Option FieldType) (d : Nat) (D : va_G) (g : gT) (N : Nat) (ad ln : Nat → Nat) (A : gM) (av : List gV) (A' : gM) (u : Nat × Nat × Nat) (r : Nat) : Prop :=
  ∀ sz, Met l y (g_ws y b nl rt) (g_rmx d u.2.1 u.2.2) (g_pre D g N ad ln A sz av) (g_QAr D g N ad ln A sz A' u.1 r) u.2.1 u.2.2 (va_A (gw g ad ln A N) sz)
section GAC
variable {p : Program} {l : Launch} {e : Env} {R : Room} {s : State} {m : MethodId} {args : Array Value} {below : List Frame} {meth : Method} {c : Code} {Q : State → Prop} {nL : Nat} {D : va_G} {g : gT} {As : Nat → Prop} {N N0 : Nat} {ad ln ad0 ln0 : Nat → Nat} {A A' A1 A0 : gM} {loc loc' : List (Nat × gV)} {k n pc cp' : Nat} {st : List gV} {cc : ByteArray} {own : String} {d mc : Nat}
/-- where a method that makes arrays must come -/
def gEAi (below : List Frame) (D : va_G) (g : gT) (N : Nat) (ad ln : Nat → Nat) (A A' : gM) (u : Nat × Nat × Nat) (r : Int32) (args : Array Value) (s : State) : State → Prop := MQ below (g_QAi D g N ad ln A s.heap.size A' u.1 r) args s u.2.1 u.2.2 (va_A (gw g ad ln A N) s.heap.size)
theorem g_metAi {y : MethodName} {b : ByteArray} {nl : Nat} {rt : Option FieldType} {av : List gV} {u : Nat × Nat × Nat} {r : Int32} (hpl : plainName y.cls = true) (hlen : (av.map g_cat).foldr (fun c n => (if c = 2 then 2 else 1) + n) 0 ≤ nl)
    (body : ∀ (p : Program) (e : Env) (s : State) (m : MethodId) (args : Array Value) (below : List Frame) (meth : Method) (c : Code), gC p (g_rmx d u.2.1 u.2.2) s m args meth c b y.cls nl D g (va_A (gw g ad ln A N) s.heap.size) d → meth.sig.returnType = rt → gJ p l e (g_rmx d u.2.1 u.2.2) s m args below meth c (gEAi below D g N ad ln A A' u r args s) nl D g (va_A (gw g ad ln A N) s.heap.size) N ad ln A (g_args 0 av) 0 0 0 []) : gAi l y b nl rt d D g N ad ln A av A' u r := by
  intro sz
  refine Met.ofW (cc := b) (maxL := nl) (ret := rt) hpl rfl ?_
  intro p e s m args below meth c s₁ B hml hv
  obtain ⟨rfl, hsz, hP, hK, hD0⟩ := hv
  subst hsz
  have hts := atoms_spec (ws := g_ws y b nl rt) B.pre
  have hown : s.vm.findClass y.cls = some m.cls := findClass_of_methodNamed B.named
  have hl := lv_entry (av.map (g_v ad)) (n := nl) (by rw [g_sl_len]; exact hlen)
  rw [lg_entry_eq]
  rw [g_args_map] at hl
  exact body p e s m _ below meth c ⟨B.exec, B.bytes, hml, hown, fun w hw => hts w (List.mem_cons_of_mem _ hw), hK, fun q h => Or.inr h, B.notSynchronized, Nat.le_refl _, Nat.le_refl _⟩ B.returns s.heap [] _ hP hD0.self va_S.rf hl
/-- where a method that makes arrays must come -/
def gEAl (below : List Frame) (D : va_G) (g : gT) (N : Nat) (ad ln : Nat → Nat) (A A' : gM) (u : Nat × Nat × Nat) (r : Int64) (args : Array Value) (s : State) : State → Prop := MQ below (g_QAl D g N ad ln A s.heap.size A' u.1 r) args s u.2.1 u.2.2 (va_A (gw g ad ln A N) s.heap.size)
theorem g_metAl {y : MethodName} {b : ByteArray} {nl : Nat} {rt : Option FieldType} {av : List gV} {u : Nat × Nat × Nat} {r : Int64} (hpl : plainName y.cls = true) (hlen : (av.map g_cat).foldr (fun c n => (if c = 2 then 2 else 1) + n) 0 ≤ nl)
    (body : ∀ (p : Program) (e : Env) (s : State) (m : MethodId) (args : Array Value) (below : List Frame) (meth : Method) (c : Code), gC p (g_rmx d u.2.1 u.2.2) s m args meth c b y.cls nl D g (va_A (gw g ad ln A N) s.heap.size) d → meth.sig.returnType = rt → gJ p l e (g_rmx d u.2.1 u.2.2) s m args below meth c (gEAl below D g N ad ln A A' u r args s) nl D g (va_A (gw g ad ln A N) s.heap.size) N ad ln A (g_args 0 av) 0 0 0 []) : gAl l y b nl rt d D g N ad ln A av A' u r := by
  intro sz
  refine Met.ofW (cc := b) (maxL := nl) (ret := rt) hpl rfl ?_
  intro p e s m args below meth c s₁ B hml hv
  obtain ⟨rfl, hsz, hP, hK, hD0⟩ := hv
  subst hsz
  have hts := atoms_spec (ws := g_ws y b nl rt) B.pre
  have hown : s.vm.findClass y.cls = some m.cls := findClass_of_methodNamed B.named
  have hl := lv_entry (av.map (g_v ad)) (n := nl) (by rw [g_sl_len]; exact hlen)
  rw [lg_entry_eq]
  rw [g_args_map] at hl
  exact body p e s m _ below meth c ⟨B.exec, B.bytes, hml, hown, fun w hw => hts w (List.mem_cons_of_mem _ hw), hK, fun q h => Or.inr h, B.notSynchronized, Nat.le_refl _, Nat.le_refl _⟩ B.returns s.heap [] _ hP hD0.self va_S.rf hl
/-- where a method that makes arrays must come -/
def gEAv (below : List Frame) (D : va_G) (g : gT) (N : Nat) (ad ln : Nat → Nat) (A A' : gM) (u : Nat × Nat × Nat)  (args : Array Value) (s : State) : State → Prop := MQ below (g_QAv D g N ad ln A s.heap.size A' u.1) args s u.2.1 u.2.2 (va_A (gw g ad ln A N) s.heap.size)
theorem g_metAv {y : MethodName} {b : ByteArray} {nl : Nat} {rt : Option FieldType} {av : List gV} {u : Nat × Nat × Nat}  (hpl : plainName y.cls = true) (hlen : (av.map g_cat).foldr (fun c n => (if c = 2 then 2 else 1) + n) 0 ≤ nl)
    (body : ∀ (p : Program) (e : Env) (s : State) (m : MethodId) (args : Array Value) (below : List Frame) (meth : Method) (c : Code), gC p (g_rmx d u.2.1 u.2.2) s m args meth c b y.cls nl D g (va_A (gw g ad ln A N) s.heap.size) d → meth.sig.returnType = rt → gJ p l e (g_rmx d u.2.1 u.2.2) s m args below meth c (gEAv below D g N ad ln A A' u args s) nl D g (va_A (gw g ad ln A N) s.heap.size) N ad ln A (g_args 0 av) 0 0 0 []) : gAv l y b nl rt d D g N ad ln A av A' u := by
  intro sz
  refine Met.ofW (cc := b) (maxL := nl) (ret := rt) hpl rfl ?_
  intro p e s m args below meth c s₁ B hml hv
  obtain ⟨rfl, hsz, hP, hK, hD0⟩ := hv
  subst hsz
  have hts := atoms_spec (ws := g_ws y b nl rt) B.pre
  have hown : s.vm.findClass y.cls = some m.cls := findClass_of_methodNamed B.named
  have hl := lv_entry (av.map (g_v ad)) (n := nl) (by rw [g_sl_len]; exact hlen)
  rw [lg_entry_eq]
  rw [g_args_map] at hl
  exact body p e s m _ below meth c ⟨B.exec, B.bytes, hml, hown, fun w hw => hts w (List.mem_cons_of_mem _ hw), hK, fun q h => Or.inr h, B.notSynchronized, Nat.le_refl _, Nat.le_refl _⟩ B.returns s.heap [] _ hP hD0.self va_S.rf hl
/-- where a method that makes arrays must come -/
def gEAr (below : List Frame) (D : va_G) (g : gT) (N : Nat) (ad ln : Nat → Nat) (A A' : gM) (u : Nat × Nat × Nat) (r : Nat) (args : Array Value) (s : State) : State → Prop := MQ below (g_QAr D g N ad ln A s.heap.size A' u.1 r) args s u.2.1 u.2.2 (va_A (gw g ad ln A N) s.heap.size)
theorem g_metAr {y : MethodName} {b : ByteArray} {nl : Nat} {rt : Option FieldType} {av : List gV} {u : Nat × Nat × Nat} {r : Nat} (hpl : plainName y.cls = true) (hlen : (av.map g_cat).foldr (fun c n => (if c = 2 then 2 else 1) + n) 0 ≤ nl)
    (body : ∀ (p : Program) (e : Env) (s : State) (m : MethodId) (args : Array Value) (below : List Frame) (meth : Method) (c : Code), gC p (g_rmx d u.2.1 u.2.2) s m args meth c b y.cls nl D g (va_A (gw g ad ln A N) s.heap.size) d → meth.sig.returnType = rt → gJ p l e (g_rmx d u.2.1 u.2.2) s m args below meth c (gEAr below D g N ad ln A A' u r args s) nl D g (va_A (gw g ad ln A N) s.heap.size) N ad ln A (g_args 0 av) 0 0 0 []) : gAr l y b nl rt d D g N ad ln A av A' u r := by
  intro sz
  refine Met.ofW (cc := b) (maxL := nl) (ret := rt) hpl rfl ?_
  intro p e s m args below meth c s₁ B hml hv
  obtain ⟨rfl, hsz, hP, hK, hD0⟩ := hv
  subst hsz
  have hts := atoms_spec (ws := g_ws y b nl rt) B.pre
  have hown : s.vm.findClass y.cls = some m.cls := findClass_of_methodNamed B.named
  have hl := lv_entry (av.map (g_v ad)) (n := nl) (by rw [g_sl_len]; exact hlen)
  rw [lg_entry_eq]
  rw [g_args_map] at hl
  exact body p e s m _ below meth c ⟨B.exec, B.bytes, hml, hown, fun w hw => hts w (List.mem_cons_of_mem _ hw), hK, fun q h => Or.inr h, B.notSynchronized, Nat.le_refl _, Nat.le_refl _⟩ B.returns s.heap [] _ hP hD0.self va_S.rf hl
theorem g_retAi (C : gC p R s m args meth c cc own nL D g (va_A (gw g ad0 ln0 A0 N) s.heap.size) d) {r : Int32} (hch : g_chg N ad0 ln0 ad ln cp') (hr : meth.sig.returnType = some .int) (hdg : decode cc pc = .ok (.ireturn, 1)) : gJ p l e R s m args below meth c (gEAi below D g N ad0 ln0 A0 A (cp', k, n) r args s) nL D g (va_A (gw g ad0 ln0 A0 N) s.heap.size) N ad ln A loc k n pc [gi r] := fun H locs ls hP hD hS hl => W.iret (v := r) C.1 C.2.1 hr (fun t ht hW => ⟨⟨r, (ad, ln), rfl, rfl, hch, by rw [ht]; exact hP, va_K.moved hW.alike C.2.2.2.2.2.1, hD⟩, hS.F ht⟩) hS.2.2 hdg C.2.2.2.2.2.2.2.1
theorem g_retAl (C : gC p R s m args meth c cc own nL D g (va_A (gw g ad0 ln0 A0 N) s.heap.size) d) {r : Int64} (hch : g_chg N ad0 ln0 ad ln cp') (hr : meth.sig.returnType = some .long) (hdg : decode cc pc = .ok (.lreturn, 1)) : gJ p l e R s m args below meth c (gEAl below D g N ad0 ln0 A0 A (cp', k, n) r args s) nL D g (va_A (gw g ad0 ln0 A0 N) s.heap.size) N ad ln A loc k n pc [gl r] := fun H locs ls hP hD hS hl => W.lret (v := r) C.1 C.2.1 hr (fun t ht hW => ⟨⟨r, (ad, ln), rfl, rfl, hch, by rw [ht]; exact hP, va_K.moved hW.alike C.2.2.2.2.2.1, hD⟩, hS.F ht⟩) hS.2.2 hdg C.2.2.2.2.2.2.2.1
theorem g_retAv (C : gC p R s m args meth c cc own nL D g (va_A (gw g ad0 ln0 A0 N) s.heap.size) d) (hch : g_chg N ad0 ln0 ad ln cp') (hr : meth.sig.returnType = none) (hdg : decode cc pc = .ok (.return_, 1)) : gJ p l e R s m args below meth c (gEAv below D g N ad0 ln0 A0 A (cp', k, n) args s) nL D g (va_A (gw g ad0 ln0 A0 N) s.heap.size) N ad ln A loc k n pc [] := fun H locs ls hP hD hS hl => W.vret C.1 C.2.1 hr (fun t ht hW => ⟨⟨(ad, ln), rfl, trivial, hch, by rw [ht]; exact hP, va_K.moved hW.alike C.2.2.2.2.2.1, hD⟩, hS.F ht⟩) hS.2.2 hdg C.2.2.2.2.2.2.2.1
theorem g_retAz (C : gC p R s m args meth c cc own nL D g (va_A (gw g ad0 ln0 A0 N) s.heap.size) d) {r : Int32} (hch : g_chg N ad0 ln0 ad ln cp') (hr : meth.sig.returnType = some .boolean) (hz : r = 0 ∨ r = 1) (hdg : decode cc pc = .ok (.ireturn, 1)) : gJ p l e R s m args below meth c (gEAi below D g N ad0 ln0 A0 A (cp', k, n) r args s) nL D g (va_A (gw g ad0 ln0 A0 N) s.heap.size) N ad ln A loc k n pc [gi r] := fun H locs ls hP hD hS hl => W.zret (v := r) C.1 C.2.1 hr (by rcases hz with rfl | rfl <;> rfl) (fun t ht hW => ⟨⟨r, (ad, ln), rfl, rfl, hch, by rw [ht]; exact hP, va_K.moved hW.alike C.2.2.2.2.2.1, hD⟩, hS.F ht⟩) hS.2.2 hdg C.2.2.2.2.2.2.2.1
theorem g_retAr (C : gC p R s m args meth c cc own nL D g (va_A (gw g ad0 ln0 A0 N) s.heap.size) d) {w : Nat} {rt : FieldType} (hch : g_chg N ad0 ln0 ad ln cp') (hw : ln N = w) (hr : meth.sig.returnType = some rt) (hrt : (∃ n, rt = .object n) ∨ ∃ t, rt = .array t) (hdg : decode cc pc = .ok (.areturn, 1)) : gJ p l e R s m args below meth c (gEAr below D g N ad0 ln0 A0 A (cp', k, n) w args s) nL D g (va_A (gw g ad0 ln0 A0 N) s.heap.size) (N + 1) ad ln A loc k n pc [gr N] := fun H locs ls hP hD hS hl => W.aret (v := .ref (ad N)) C.1 C.2.1 hr hrt (Or.inr ⟨_, rfl⟩) (fun t ht hW => ⟨⟨(ad, ln), ad N, rfl, trivial, rfl, hw, hch, by rw [ht]; exact hP, va_K.moved hW.alike C.2.2.2.2.2.1, hD⟩, hS.F ht⟩) hS.2.2 hdg C.2.2.2.2.2.2.2.1
theorem g_roomx {d d' mL k n : Nat} {R : Room} (h1 : d ≤ R.frames ∧ 40 * d ≤ R.locals) (h2 : d' + 1 ≤ d) (h3 : mL ≤ 20) : (g_rmx d' k n).frames + 1 ≤ R.frames ∧ 8 + (mL + 11) + (g_rmx d' k n).locals ≤ R.locals := by
  show d' + 1 ≤ R.frames ∧ 8 + (mL + 11) + 40 * d' ≤ R.locals
  omega
theorem g_callAiV (C : gC p R s m args meth c cc own nL D g As d) (i : Nat) (as : List gV) {st0 : List gV} {Cn : String} {ci ix np mL d' : Nat} {z : MethodName} {b : ByteArray} {rt : Option FieldType} {fs : List Value} {T : u_T} {Nn : Nat} {u : Nat × Nat × Nat} {r : Int32} (hM : gAi l z b mL rt d' D g N ad ln A (gr i :: as) A1 u r) (hs : g_site own Cn ix z b mL rt np) (hd : d' + 1 ≤ d) (hi : i < N) (he : g_ce g ad (g_ln ln i) (A i) i = .inr (ci, fs)) (hc : vwCl[ci]? = some (Cn, T, Nn)) (hn : as.length = np) (hst : st0 = as.reverse ++ gr i :: st) (hcat : (st.map g_cat).sum ≤ 8) (hkn : k + u.2.1 ≤ R.cells ∧ n + u.2.2 ≤ R.slots) (hr : g_rok N (loc.map Prod.snd)) (hr2 : g_rok N st) (hdg : decode cc pc = .ok (.invokevirtual ix, 3)) (kk : ∀ (ad1 ln1 : Nat → Nat), g_chg N ad ln ad1 ln1 u.1 → gJ p l e R s m args below meth c Q nL D g As N ad1 ln1 A1 loc (k + u.2.1) (n + u.2.2) (pc + 3) (gi r :: st)) : gJ p l e R s m args below meth c Q nL D g As N ad ln A loc k n pc st0 := by
  intro H locs ls hP hD hS hl
  have hF := g_frees hD hS C.2.2.2.2.2.2.1
  refine va_calli (va_runV (C := Cn) (b := ad i) (As := as.map (g_v ad)) (rest := st.map (g_v ad)) ⟨C.1, C.2.1, C.2.2.1, C.2.2.2.1, C.2.2.2.2.1⟩ (hM H.size) (cwV np C.2.2.2.2.1 (g_goodV hs) rfl rfl rfl hs.2.2.2.2.2.1 (g_roomx C.2.2.2.2.2.2.2.2 hd hs.2.2.2.2.2.2)) ⟨g_blind, va_recv C.2.2.2.2.2.1 hP (q0 := i) hc (by rw [gw_at hi, he]), fun U hU hW => ⟨rfl, by rw [hU], by rw [hU]; exact hP, va_K.moved hW.alike C.2.2.2.2.2.1, hD.weaken (fun _ _ _ _ => trivial)⟩⟩ rfl (by rw [List.length_map]; exact hn) hl.1 (by show st0.map (g_v ad) = _; rw [hst]; simp [g_v]) (g_lv hcat) hdg hkn) hS (fun q _ h => hF q h) hF (fun x u2 t H1 locs1 ht hvm hw hB hz1 hk1 hS => ?_)
  subst hw
  obtain ⟨hch, hP1, hK1, hD1⟩ := hB
  rw [ht] at hP1
  have e3 : (gi x :: st).map (g_v u2.1) = .int x :: st.map (g_v ad) := by rw [List.map_cons, g_rok_st hch hr2]; rfl
  have hk := kk u2.1 u2.2 hch H1 locs1 ls hP1 (hD1.weaken (fun _ _ _ h => hF _ h)) hS (by rw [g_rok_loc hch hr]; exact hl)
  rw [e3] at hk
  exact hk
theorem g_callAiS (C : gC p R s m args meth c cc own nL D g As d) (as : List gV) {st0 : List gV} {ix np mL d' : Nat} {z : MethodName} {b : ByteArray} {rt : Option FieldType} {u : Nat × Nat × Nat} {r : Int32} (hM : gAi l z b mL rt d' D g N ad ln A as A1 u r) (hs : g_siteS own ix z b mL rt np) (hd : d' + 1 ≤ d) (hn : as.length = np) (hst : st0 = as.reverse ++ st) (hcat : (st.map g_cat).sum ≤ 8) (hkn : k + u.2.1 ≤ R.cells ∧ n + u.2.2 ≤ R.slots) (hr : g_rok N (loc.map Prod.snd)) (hr2 : g_rok N st) (hdg : decode cc pc = .ok (.invokestatic ix, 3)) (kk : ∀ (ad1 ln1 : Nat → Nat), g_chg N ad ln ad1 ln1 u.1 → gJ p l e R s m args below meth c Q nL D g As N ad1 ln1 A1 loc (k + u.2.1) (n + u.2.2) (pc + 3) (gi r :: st)) : gJ p l e R s m args below meth c Q nL D g As N ad ln A loc k n pc st0 := by
  intro H locs ls hP hD hS hl
  have hF := g_frees hD hS C.2.2.2.2.2.2.1
  refine va_calli (va_runS (As := as.map (g_v ad)) (rest := st.map (g_v ad)) ⟨C.1, C.2.1, C.2.2.1, C.2.2.2.1, C.2.2.2.2.1⟩ (hM H.size) (cwS np C.2.2.2.2.1 (g_goodS hs) rfl rfl rfl hs.2.2.2.2.1 (g_roomx C.2.2.2.2.2.2.2.2 hd hs.2.2.2.2.2)) ⟨g_blind, fun U hU hW => ⟨rfl, by rw [hU], by rw [hU]; exact hP, va_K.moved hW.alike C.2.2.2.2.2.1, hD.weaken (fun _ _ _ _ => trivial)⟩⟩ rfl (by rw [List.length_map]; exact hn) hl.1 (by show st0.map (g_v ad) = _; rw [hst]; simp [g_v]) (g_lv hcat) hdg hkn) hS (fun q _ h => hF q h) hF (fun x u2 t H1 locs1 ht hvm hw hB hz1 hk1 hS => ?_)
  subst hw
  obtain ⟨hch, hP1, hK1, hD1⟩ := hB
  rw [ht] at hP1
  have e3 : (gi x :: st).map (g_v u2.1) = .int x :: st.map (g_v ad) := by rw [List.map_cons, g_rok_st hch hr2]; rfl
  have hk := kk u2.1 u2.2 hch H1 locs1 ls hP1 (hD1.weaken (fun _ _ _ h => hF _ h)) hS (by rw [g_rok_loc hch hr]; exact hl)
  rw [e3] at hk
  exact hk
theorem g_callAlV (C : gC p R s m args meth c cc own nL D g As d) (i : Nat) (as : List gV) {st0 : List gV} {Cn : String} {ci ix np mL d' : Nat} {z : MethodName} {b : ByteArray} {rt : Option FieldType} {fs : List Value} {T : u_T} {Nn : Nat} {u : Nat × Nat × Nat} {r : Int64} (hM : gAl l z b mL rt d' D g N ad ln A (gr i :: as) A1 u r) (hs : g_site own Cn ix z b mL rt np) (hd : d' + 1 ≤ d) (hi : i < N) (he : g_ce g ad (g_ln ln i) (A i) i = .inr (ci, fs)) (hc : vwCl[ci]? = some (Cn, T, Nn)) (hn : as.length = np) (hst : st0 = as.reverse ++ gr i :: st) (hcat : (st.map g_cat).sum ≤ 8) (hkn : k + u.2.1 ≤ R.cells ∧ n + u.2.2 ≤ R.slots) (hr : g_rok N (loc.map Prod.snd)) (hr2 : g_rok N st) (hdg : decode cc pc = .ok (.invokevirtual ix, 3)) (kk : ∀ (ad1 ln1 : Nat → Nat), g_chg N ad ln ad1 ln1 u.1 → gJ p l e R s m args below meth c Q nL D g As N ad1 ln1 A1 loc (k + u.2.1) (n + u.2.2) (pc + 3) (gl r :: st)) : gJ p l e R s m args below meth c Q nL D g As N ad ln A loc k n pc st0 := by
  intro H locs ls hP hD hS hl
  have hF := g_frees hD hS C.2.2.2.2.2.2.1
  refine va_calll (va_runV (C := Cn) (b := ad i) (As := as.map (g_v ad)) (rest := st.map (g_v ad)) ⟨C.1, C.2.1, C.2.2.1, C.2.2.2.1, C.2.2.2.2.1⟩ (hM H.size) (cwV np C.2.2.2.2.1 (g_goodV hs) rfl rfl rfl hs.2.2.2.2.2.1 (g_roomx C.2.2.2.2.2.2.2.2 hd hs.2.2.2.2.2.2)) ⟨g_blind, va_recv C.2.2.2.2.2.1 hP (q0 := i) hc (by rw [gw_at hi, he]), fun U hU hW => ⟨rfl, by rw [hU], by rw [hU]; exact hP, va_K.moved hW.alike C.2.2.2.2.2.1, hD.weaken (fun _ _ _ _ => trivial)⟩⟩ rfl (by rw [List.length_map]; exact hn) hl.1 (by show st0.map (g_v ad) = _; rw [hst]; simp [g_v]) (g_lv hcat) hdg hkn) hS (fun q _ h => hF q h) hF (fun x u2 t H1 locs1 ht hvm hw hB hz1 hk1 hS => ?_)
  subst hw
  obtain ⟨hch, hP1, hK1, hD1⟩ := hB
  rw [ht] at hP1
  have e3 : (gl x :: st).map (g_v u2.1) = .long x :: st.map (g_v ad) := by rw [List.map_cons, g_rok_st hch hr2]; rfl
  have hk := kk u2.1 u2.2 hch H1 locs1 ls hP1 (hD1.weaken (fun _ _ _ h => hF _ h)) hS (by rw [g_rok_loc hch hr]; exact hl)
  rw [e3] at hk
  exact hk
theorem g_callAlS (C : gC p R s m args meth c cc own nL D g As d) (as : List gV) {st0 : List gV} {ix np mL d' : Nat} {z : MethodName} {b : ByteArray} {rt : Option FieldType} {u : Nat × Nat × Nat} {r : Int64} (hM : gAl l z b mL rt d' D g N ad ln A as A1 u r) (hs : g_siteS own ix z b mL rt np) (hd : d' + 1 ≤ d) (hn : as.length = np) (hst : st0 = as.reverse ++ st) (hcat : (st.map g_cat).sum ≤ 8) (hkn : k + u.2.1 ≤ R.cells ∧ n + u.2.2 ≤ R.slots) (hr : g_rok N (loc.map Prod.snd)) (hr2 : g_rok N st) (hdg : decode cc pc = .ok (.invokestatic ix, 3)) (kk : ∀ (ad1 ln1 : Nat → Nat), g_chg N ad ln ad1 ln1 u.1 → gJ p l e R s m args below meth c Q nL D g As N ad1 ln1 A1 loc (k + u.2.1) (n + u.2.2) (pc + 3) (gl r :: st)) : gJ p l e R s m args below meth c Q nL D g As N ad ln A loc k n pc st0 := by
  intro H locs ls hP hD hS hl
  have hF := g_frees hD hS C.2.2.2.2.2.2.1
  refine va_calll (va_runS (As := as.map (g_v ad)) (rest := st.map (g_v ad)) ⟨C.1, C.2.1, C.2.2.1, C.2.2.2.1, C.2.2.2.2.1⟩ (hM H.size) (cwS np C.2.2.2.2.1 (g_goodS hs) rfl rfl rfl hs.2.2.2.2.1 (g_roomx C.2.2.2.2.2.2.2.2 hd hs.2.2.2.2.2)) ⟨g_blind, fun U hU hW => ⟨rfl, by rw [hU], by rw [hU]; exact hP, va_K.moved hW.alike C.2.2.2.2.2.1, hD.weaken (fun _ _ _ _ => trivial)⟩⟩ rfl (by rw [List.length_map]; exact hn) hl.1 (by show st0.map (g_v ad) = _; rw [hst]; simp [g_v]) (g_lv hcat) hdg hkn) hS (fun q _ h => hF q h) hF (fun x u2 t H1 locs1 ht hvm hw hB hz1 hk1 hS => ?_)
  subst hw
  obtain ⟨hch, hP1, hK1, hD1⟩ := hB
  rw [ht] at hP1
  have e3 : (gl x :: st).map (g_v u2.1) = .long x :: st.map (g_v ad) := by rw [List.map_cons, g_rok_st hch hr2]; rfl
  have hk := kk u2.1 u2.2 hch H1 locs1 ls hP1 (hD1.weaken (fun _ _ _ h => hF _ h)) hS (by rw [g_rok_loc hch hr]; exact hl)
  rw [e3] at hk
  exact hk
theorem g_callAvV (C : gC p R s m args meth c cc own nL D g As d) (i : Nat) (as : List gV) {st0 : List gV} {Cn : String} {ci ix np mL d' : Nat} {z : MethodName} {b : ByteArray} {rt : Option FieldType} {fs : List Value} {T : u_T} {Nn : Nat} {u : Nat × Nat × Nat}  (hM : gAv l z b mL rt d' D g N ad ln A (gr i :: as) A1 u) (hs : g_site own Cn ix z b mL rt np) (hd : d' + 1 ≤ d) (hi : i < N) (he : g_ce g ad (g_ln ln i) (A i) i = .inr (ci, fs)) (hc : vwCl[ci]? = some (Cn, T, Nn)) (hn : as.length = np) (hst : st0 = as.reverse ++ gr i :: st) (hcat : (st.map g_cat).sum ≤ 8) (hkn : k + u.2.1 ≤ R.cells ∧ n + u.2.2 ≤ R.slots) (hr : g_rok N (loc.map Prod.snd)) (hr2 : g_rok N st) (hdg : decode cc pc = .ok (.invokevirtual ix, 3)) (kk : ∀ (ad1 ln1 : Nat → Nat), g_chg N ad ln ad1 ln1 u.1 → gJ p l e R s m args below meth c Q nL D g As N ad1 ln1 A1 loc (k + u.2.1) (n + u.2.2) (pc + 3) (st)) : gJ p l e R s m args below meth c Q nL D g As N ad ln A loc k n pc st0 := by
  intro H locs ls hP hD hS hl
  have hF := g_frees hD hS C.2.2.2.2.2.2.1
  refine va_callv (va_runV (C := Cn) (b := ad i) (As := as.map (g_v ad)) (rest := st.map (g_v ad)) ⟨C.1, C.2.1, C.2.2.1, C.2.2.2.1, C.2.2.2.2.1⟩ (hM H.size) (cwV np C.2.2.2.2.1 (g_goodV hs) rfl rfl rfl hs.2.2.2.2.2.1 (g_roomx C.2.2.2.2.2.2.2.2 hd hs.2.2.2.2.2.2)) ⟨g_blind, va_recv C.2.2.2.2.2.1 hP (q0 := i) hc (by rw [gw_at hi, he]), fun U hU hW => ⟨rfl, by rw [hU], by rw [hU]; exact hP, va_K.moved hW.alike C.2.2.2.2.2.1, hD.weaken (fun _ _ _ _ => trivial)⟩⟩ rfl (by rw [List.length_map]; exact hn) hl.1 (by show st0.map (g_v ad) = _; rw [hst]; simp [g_v]) (g_lv hcat) hdg hkn) hS (fun q _ h => hF q h) hF (fun u2 t H1 locs1 ht hvm hw hB hz1 hk1 hS => ?_)
  obtain ⟨hch, hP1, hK1, hD1⟩ := hB
  rw [ht] at hP1
  have e3 : st.map (g_v u2.1) = st.map (g_v ad) := g_rok_st hch hr2
  have hk := kk u2.1 u2.2 hch H1 locs1 ls hP1 (hD1.weaken (fun _ _ _ h => hF _ h)) hS (by rw [g_rok_loc hch hr]; exact hl)
  rw [e3] at hk
  exact hk
theorem g_callAvS (C : gC p R s m args meth c cc own nL D g As d) (as : List gV) {st0 : List gV} {ix np mL d' : Nat} {z : MethodName} {b : ByteArray} {rt : Option FieldType} {u : Nat × Nat × Nat}  (hM : gAv l z b mL rt d' D g N ad ln A as A1 u) (hs : g_siteS own ix z b mL rt np) (hd : d' + 1 ≤ d) (hn : as.length = np) (hst : st0 = as.reverse ++ st) (hcat : (st.map g_cat).sum ≤ 8) (hkn : k + u.2.1 ≤ R.cells ∧ n + u.2.2 ≤ R.slots) (hr : g_rok N (loc.map Prod.snd)) (hr2 : g_rok N st) (hdg : decode cc pc = .ok (.invokestatic ix, 3)) (kk : ∀ (ad1 ln1 : Nat → Nat), g_chg N ad ln ad1 ln1 u.1 → gJ p l e R s m args below meth c Q nL D g As N ad1 ln1 A1 loc (k + u.2.1) (n + u.2.2) (pc + 3) (st)) : gJ p l e R s m args below meth c Q nL D g As N ad ln A loc k n pc st0 := by
  intro H locs ls hP hD hS hl
  have hF := g_frees hD hS C.2.2.2.2.2.2.1
  refine va_callv (va_runS (As := as.map (g_v ad)) (rest := st.map (g_v ad)) ⟨C.1, C.2.1, C.2.2.1, C.2.2.2.1, C.2.2.2.2.1⟩ (hM H.size) (cwS np C.2.2.2.2.1 (g_goodS hs) rfl rfl rfl hs.2.2.2.2.1 (g_roomx C.2.2.2.2.2.2.2.2 hd hs.2.2.2.2.2)) ⟨g_blind, fun U hU hW => ⟨rfl, by rw [hU], by rw [hU]; exact hP, va_K.moved hW.alike C.2.2.2.2.2.1, hD.weaken (fun _ _ _ _ => trivial)⟩⟩ rfl (by rw [List.length_map]; exact hn) hl.1 (by show st0.map (g_v ad) = _; rw [hst]; simp [g_v]) (g_lv hcat) hdg hkn) hS (fun q _ h => hF q h) hF (fun u2 t H1 locs1 ht hvm hw hB hz1 hk1 hS => ?_)
  obtain ⟨hch, hP1, hK1, hD1⟩ := hB
  rw [ht] at hP1
  have e3 : st.map (g_v u2.1) = st.map (g_v ad) := g_rok_st hch hr2
  have hk := kk u2.1 u2.2 hch H1 locs1 ls hP1 (hD1.weaken (fun _ _ _ h => hF _ h)) hS (by rw [g_rok_loc hch hr]; exact hl)
  rw [e3] at hk
  exact hk
theorem g_callArV (C : gC p R s m args meth c cc own nL D g As d) (i : Nat) (as : List gV) {st0 : List gV} {Cn : String} {ci ix np mL d' : Nat} {z : MethodName} {b : ByteArray} {rt : Option FieldType} {fs : List Value} {T : u_T} {Nn : Nat} {u : Nat × Nat × Nat} {r : Nat} (hM : gAr l z b mL rt d' D g N ad ln A (gr i :: as) A1 u r) (hs : g_site own Cn ix z b mL rt np) (hd : d' + 1 ≤ d) (hi : i < N) (he : g_ce g ad (g_ln ln i) (A i) i = .inr (ci, fs)) (hc : vwCl[ci]? = some (Cn, T, Nn)) (hn : as.length = np) (hst : st0 = as.reverse ++ gr i :: st) (hcat : (st.map g_cat).sum ≤ 8) (hkn : k + u.2.1 ≤ R.cells ∧ n + u.2.2 ≤ R.slots) (hr : g_rok N (loc.map Prod.snd)) (hr2 : g_rok N st) (hdg : decode cc pc = .ok (.invokevirtual ix, 3)) (kk : ∀ (ad1 ln1 : Nat → Nat), g_chg N ad ln ad1 ln1 u.1 → ln1 N = r → gJ p l e R s m args below meth c Q nL D g As (N + 1) ad1 ln1 A1 loc (k + u.2.1) (n + u.2.2) (pc + 3) (gr N :: st)) : gJ p l e R s m args below meth c Q nL D g As N ad ln A loc k n pc st0 := by
  intro H locs ls hP hD hS hl
  have hF := g_frees hD hS C.2.2.2.2.2.2.1
  refine va_callr (va_runV (C := Cn) (b := ad i) (As := as.map (g_v ad)) (rest := st.map (g_v ad)) ⟨C.1, C.2.1, C.2.2.1, C.2.2.2.1, C.2.2.2.2.1⟩ (hM H.size) (cwV np C.2.2.2.2.1 (g_goodV hs) rfl rfl rfl hs.2.2.2.2.2.1 (g_roomx C.2.2.2.2.2.2.2.2 hd hs.2.2.2.2.2.2)) ⟨g_blind, va_recv C.2.2.2.2.2.1 hP (q0 := i) hc (by rw [gw_at hi, he]), fun U hU hW => ⟨rfl, by rw [hU], by rw [hU]; exact hP, va_K.moved hW.alike C.2.2.2.2.2.1, hD.weaken (fun _ _ _ _ => trivial)⟩⟩ rfl (by rw [List.length_map]; exact hn) hl.1 (by show st0.map (g_v ad) = _; rw [hst]; simp [g_v]) (g_lv hcat) hdg hkn) hS (fun q _ h => hF q h) hF (fun u2 ra t H1 locs1 ht hvm hw hB hz1 hk1 hS => ?_)
  obtain ⟨rfl, hlw, hch, hP1, hK1, hD1⟩ := hB
  rw [ht] at hP1
  have e3 : (gr N :: st).map (g_v u2.1) = .ref (u2.1 N) :: st.map (g_v ad) := by rw [List.map_cons, g_rok_st hch hr2]; rfl
  have hk := kk u2.1 u2.2 hch hlw H1 locs1 ls hP1 (hD1.weaken (fun _ _ _ h => hF _ h)) hS (by rw [g_rok_loc hch hr]; exact hl)
  rw [e3] at hk
  exact hk
theorem g_callArS (C : gC p R s m args meth c cc own nL D g As d) (as : List gV) {st0 : List gV} {ix np mL d' : Nat} {z : MethodName} {b : ByteArray} {rt : Option FieldType} {u : Nat × Nat × Nat} {r : Nat} (hM : gAr l z b mL rt d' D g N ad ln A as A1 u r) (hs : g_siteS own ix z b mL rt np) (hd : d' + 1 ≤ d) (hn : as.length = np) (hst : st0 = as.reverse ++ st) (hcat : (st.map g_cat).sum ≤ 8) (hkn : k + u.2.1 ≤ R.cells ∧ n + u.2.2 ≤ R.slots) (hr : g_rok N (loc.map Prod.snd)) (hr2 : g_rok N st) (hdg : decode cc pc = .ok (.invokestatic ix, 3)) (kk : ∀ (ad1 ln1 : Nat → Nat), g_chg N ad ln ad1 ln1 u.1 → ln1 N = r → gJ p l e R s m args below meth c Q nL D g As (N + 1) ad1 ln1 A1 loc (k + u.2.1) (n + u.2.2) (pc + 3) (gr N :: st)) : gJ p l e R s m args below meth c Q nL D g As N ad ln A loc k n pc st0 := by
  intro H locs ls hP hD hS hl
  have hF := g_frees hD hS C.2.2.2.2.2.2.1
  refine va_callr (va_runS (As := as.map (g_v ad)) (rest := st.map (g_v ad)) ⟨C.1, C.2.1, C.2.2.1, C.2.2.2.1, C.2.2.2.2.1⟩ (hM H.size) (cwS np C.2.2.2.2.1 (g_goodS hs) rfl rfl rfl hs.2.2.2.2.1 (g_roomx C.2.2.2.2.2.2.2.2 hd hs.2.2.2.2.2)) ⟨g_blind, fun U hU hW => ⟨rfl, by rw [hU], by rw [hU]; exact hP, va_K.moved hW.alike C.2.2.2.2.2.1, hD.weaken (fun _ _ _ _ => trivial)⟩⟩ rfl (by rw [List.length_map]; exact hn) hl.1 (by show st0.map (g_v ad) = _; rw [hst]; simp [g_v]) (g_lv hcat) hdg hkn) hS (fun q _ h => hF q h) hF (fun u2 ra t H1 locs1 ht hvm hw hB hz1 hk1 hS => ?_)
  obtain ⟨rfl, hlw, hch, hP1, hK1, hD1⟩ := hB
  rw [ht] at hP1
  have e3 : (gr N :: st).map (g_v u2.1) = .ref (u2.1 N) :: st.map (g_v ad) := by rw [List.map_cons, g_rok_st hch hr2]; rfl
  have hk := kk u2.1 u2.2 hch hlw H1 locs1 ls hP1 (hD1.weaken (fun _ _ _ h => hF _ h)) hS (by rw [g_rok_loc hch hr]; exact hl)
  rw [e3] at hk
  exact hk
end GAC
theorem g_len_new {ln : Nat → Nat} {N q w w0 : Nat} (hlt : q < N) (h : g_ln ln q = w0) : g_ln (va_up ln N w) q = w0 := by
  rw [← h]
  unfold g_ln
  rw [show va_up ln N w q = ln q from if_neg (by omega)]
theorem g_len_made {ln : Nat → Nat} {N w : Nat} (hN : 193 ≤ N) : g_ln (va_up ln N w) N = w := by
  rw [g_ln_big hN]
  exact if_pos rfl
theorem g_len_chg {N q w cp1 : Nat} {ad ln ad1 ln1 : Nat → Nat} (hlt : q < N) (hq : 193 ≤ q) (hch : g_chg N ad ln ad1 ln1 cp1) (h : g_ln ln q = w) : g_ln ln1 q = w := by
  rw [g_ln_big hq] at h ⊢
  rw [(hch.1 q hlt (Or.inr (by omega))).2, h]
theorem g_chg_new {N N1 q w cp : Nat} {ad0 ln0 ad ln : Nat → Nat} (h : N ≤ N1 ∧ 193 ≤ N1) (hch : g_chg N ad0 ln0 ad ln cp) : g_chg N ad0 ln0 (va_up ad N1 q) (va_up ln N1 w) cp := by
  have e : ∀ i, i < N1 → va_up ad N1 q i = ad i ∧ va_up ln N1 w i = ln i := fun i hi => ⟨if_neg (by omega), if_neg (by omega)⟩
  refine ⟨fun i hi hr => ⟨((e i (by omega)).1).trans (hch.1 i hi hr).1, ((e i (by omega)).2).trans (hch.1 i hi hr).2⟩, ?_⟩
  obtain ⟨h1, h2, h3, h4, h5⟩ := hch.2
  exact ⟨((e 185 (by omega)).2).trans h1, ((e 186 (by omega)).2).trans h2, ((e 187 (by omega)).2).trans h3, ((e 188 (by omega)).2).trans h4, ((e 189 (by omega)).2).trans h5⟩
