/-! CONTRACTS of methods that make nothing: the memory A becomes A', the answer is r -/
def g_rm (d : Nat) : Room := { frames := d, cells := 0, slots := 0, locals := 40 * d }
def g_pre (D : va_G) (g : gT) (N : Nat) (ad ln : Nat → Nat) (A : gM) (sz : Nat) (av : List gV) : Array Value → State → Prop :=
  va_Pc (av.map (g_v ad)) (fun U => U.heap.size = sz ∧ va_P D vwCl (gw g ad ln A N) U.heap ∧ va_K D vwCl (g_tys g) U ∧ va_D (fun _ => True) (gw g ad ln A N))
def g_B (D : va_G) (g : gT) (N : Nat) (ad ln : Nat → Nat) (A A' : gM) (sz : Nat) (t : State) : Prop :=
  va_P D vwCl (gw g ad ln A' N) t.heap ∧ va_K D vwCl (g_tys g) t ∧ va_D (va_A (gw g ad ln A N) sz) (gw g ad ln A' N)
def g_Qi (D : va_G) (g : gT) (N : Nat) (ad ln : Nat → Nat) (A : gM) (sz : Nat) (A' : gM) (r : Int32) : Array Value → State → Outcome → State → Prop :=
  va_Qi (S := Unit) (fun x _ => x = r) (fun _ t => g_B D g N ad ln A A' sz t) (va_A (gw g ad ln A N) sz)
def g_Ql (D : va_G) (g : gT) (N : Nat) (ad ln : Nat → Nat) (A : gM) (sz : Nat) (A' : gM) (r : Int64) : Array Value → State → Outcome → State → Prop :=
  va_Ql (S := Unit) (fun x _ => x = r) (fun _ t => g_B D g N ad ln A A' sz t) (va_A (gw g ad ln A N) sz)
def g_Qv (D : va_G) (g : gT) (N : Nat) (ad ln : Nat → Nat) (A : gM) (sz : Nat) (A' : gM) : Array Value → State → Outcome → State → Prop :=
  va_Qv (S := Unit) (fun _ => True) (fun _ t => g_B D g N ad ln A A' sz t) (va_A (gw g ad ln A N) sz)
def g_Qr (D : va_G) (g : gT) (N : Nat) (ad ln : Nat → Nat) (A : gM) (sz : Nat) (A' : gM) (r : Nat) : Array Value → State → Outcome → State → Prop :=
  va_Qr (S := Unit) (fun _ => True) (fun _ a t => a = ad r ∧ g_B D g N ad ln A A' sz t) (va_A (gw g ad ln A N) sz)
/-- the contract of method y at depth d: from memory A with arguments av it answers r and leaves A' -/
def gKi (l : Launch) (y : MethodName) (b : ByteArray) (nl : Nat) (rt : Option FieldType) (d : Nat) (D : va_G) (g : gT) (N : Nat) (ad ln : Nat → Nat) (A : gM) (av : List gV) (A' : gM) (r : Int32) : Prop :=
  ∀ sz, Met l y (g_ws y b nl rt) (g_rm d) (g_pre D g N ad ln A sz av) (g_Qi D g N ad ln A sz A' r) 0 0 (va_A (gw g ad ln A N) sz)
def gKl (l : Launch) (y : MethodName) (b : ByteArray) (nl : Nat) (rt : Option FieldType) (d : Nat) (D : va_G) (g : gT) (N : Nat) (ad ln : Nat → Nat) (A : gM) (av : List gV) (A' : gM) (r : Int64) : Prop :=
  ∀ sz, Met l y (g_ws y b nl rt) (g_rm d) (g_pre D g N ad ln A sz av) (g_Ql D g N ad ln A sz A' r) 0 0 (va_A (gw g ad ln A N) sz)
def gKv (l : Launch) (y : MethodName) (b : ByteArray) (nl : Nat) (rt : Option FieldType) (d : Nat) (D : va_G) (g : gT) (N : Nat) (ad ln : Nat → Nat) (A : gM) (av : List gV) (A' : gM) : Prop :=
  ∀ sz, Met l y (g_ws y b nl rt) (g_rm d) (g_pre D g N ad ln A sz av) (g_Qv D g N ad ln A sz A') 0 0 (va_A (gw g ad ln A N) sz)
def gKr (l : Launch) (y : MethodName) (b : ByteArray) (nl : Nat) (rt : Option FieldType) (d : Nat) (D : va_G) (g : gT) (N : Nat) (ad ln : Nat → Nat) (A : gM) (av : List gV) (A' : gM) (r : Nat) : Prop :=
  ∀ sz, Met l y (g_ws y b nl rt) (g_rm d) (g_pre D g N ad ln A sz av) (g_Qr D g N ad ln A sz A' r) 0 0 (va_A (gw g ad ln A N) sz)
theorem g_blind {D : va_G} {g : gT} {N : Nat} {ad ln : Nat → Nat} {A : gM} {sz : Nat} {av : List gV} : FrameBlind (g_pre D g N ad ln A sz av) := fun a U q mk h => by
  obtain ⟨q0, q1, qP, qK, qD⟩ := h
  exact ⟨q0, q1, qP, va_K.moved (u := U) (U := U.calling q mk a) (Vm.Alike.refl U.vm) qK, qD⟩
section GK
variable {p : Program} {l : Launch} {e : Env} {R : Room} {s : State} {m : MethodId} {args : Array Value} {below : List Frame} {meth : Method} {c : Code} {Q : State → Prop} {nL : Nat} {D : va_G} {g : gT} {As : Nat → Prop} {N : Nat} {ad ln : Nat → Nat} {A A' : gM} {loc loc' : List (Nat × gV)} {k n pc : Nat} {st : List gV} {cc : ByteArray} {own : String} {d : Nat}
theorem g_frees {H : Heap} {locs : List Loc} (hD : va_D As (gw g ad ln A N)) (hS : va_S As s.heap H locs) (hA : ∀ q : Nat, s.heap.size ≤ q → As q) : ∀ q, va_A (gw g ad ln A N) H.size q → As q := by
  intro q h
  rcases h with ⟨k, e, h⟩ | h
  · exact hD.2 k (q, e) h
  · exact hA q (Nat.le_trans hS.1 h)
theorem g_room {d d' mL : Nat} {R : Room} (h1 : d ≤ R.frames ∧ 40 * d ≤ R.locals) (h2 : d' + 1 ≤ d) (h3 : mL ≤ 20) : (g_rm d').frames + 1 ≤ R.frames ∧ 8 + (mL + 11) + (g_rm d').locals ≤ R.locals := by
  show d' + 1 ≤ R.frames ∧ 8 + (mL + 11) + 40 * d' ≤ R.locals
  omega
/-- the words of a call by name: link, receiver's method, code -/
def g_site (own C : String) (ix : Nat) (z : MethodName) (b : ByteArray) (mL : Nat) (rt : Option FieldType) (np : Nat) : Prop :=
  Cond.methodLink own ix z ∈ gtb ∧ Cond.instanceMethod z ∈ gtb ∧ Cond.selects C z z ∈ gtb ∧ Cond.initialized C ∈ gtb ∧ Cond.code z b mL rt ∈ gtb ∧ (z.cls = C ∧ z.cls ≠ "java/lang/invoke/MethodHandle" ∧ z.cls ≠ "java/lang/invoke/VarHandle" ∧ (parseMethodDescriptor z.desc).map (fun d => d.parameters.length) = some np) ∧ mL ≤ 20
/-- of a static call -/
def g_siteS (own : String) (ix : Nat) (z : MethodName) (b : ByteArray) (mL : Nat) (rt : Option FieldType) (np : Nat) : Prop :=
  Cond.methodLink own ix z ∈ gtb ∧ Cond.static z ∈ gtb ∧ Cond.initialized own ∈ gtb ∧ Cond.code z b mL rt ∈ gtb ∧ (z.cls = own ∧ z.cls ≠ "java/lang/invoke/MethodHandle" ∧ z.cls ≠ "java/lang/invoke/VarHandle" ∧ (parseMethodDescriptor z.desc).map (fun d => d.parameters.length) = some np) ∧ mL ≤ 20
theorem g_goodV {own Cn : String} {ix : Nat} {z : MethodName} {b : ByteArray} {mL np : Nat} {rt : Option FieldType} (h : g_site own Cn ix z b mL rt np) : GoodIn gtb (wsV own ix Cn z (g_ws z b mL rt)) := by
  intro w hw
  rcases List.mem_append.mp hw with hw | hw
  · have hm : w ∈ gtb := by
      rcases List.mem_cons.mp hw with rfl | hw
      · exact h.1
      · rcases List.mem_cons.mp hw with rfl | hw
        · exact h.2.1
        · rcases List.mem_cons.mp hw with rfl | hw
          · exact h.2.2.1
          · rcases List.mem_cons.mp hw with rfl | hw
            · exact h.2.2.2.1
            · cases hw
    exact ⟨hm, good_of_word (g_word hm)⟩
  · exact g_inL h.2.2.2.2.1 w hw
theorem g_goodS {own : String} {ix : Nat} {z : MethodName} {b : ByteArray} {mL np : Nat} {rt : Option FieldType} (h : g_siteS own ix z b mL rt np) : GoodIn gtb (wsS own ix z (g_ws z b mL rt)) := by
  intro w hw
  rcases List.mem_append.mp hw with hw | hw
  · have hm : w ∈ gtb := by
      rcases List.mem_cons.mp hw with rfl | hw
      · exact h.1
      · rcases List.mem_cons.mp hw with rfl | hw
        · exact h.2.1
        · rcases List.mem_cons.mp hw with rfl | hw
          · exact h.2.2.1
          · cases hw
    exact ⟨hm, good_of_word (g_word hm)⟩
  · exact g_inL h.2.2.2.1 w hw
theorem g_lv {ad : Nat → Nat} {st : List gV} (h : (st.map g_cat).sum ≤ 8) : 2 * 0 + ((st.map (g_v ad)).map fun v => v.category).sum ≤ 8 := by
  have : (st.map (g_v ad)).map (fun v => v.category) = st.map g_cat := by
    rw [List.map_map]
    exact List.map_congr_left fun v _ => g_cat_v
  rw [this]; omega
theorem g_calliV (C : gC p R s m args meth c cc own nL D g As d) (i : Nat) (as : List gV) {st0 : List gV} {Cn : String} {ci ix np mL d' : Nat} {z : MethodName} {b : ByteArray} {rt : Option FieldType} {fs : List Value} {T : u_T} {Nn : Nat} {r : Int32} (hM : gKi l z b mL rt d' D g N ad ln A (gr i :: as) A' r) (hs : g_site own Cn ix z b mL rt np) (hd : d' + 1 ≤ d) (hi : i < N) (he : g_ce g ad (g_ln ln i) (A i) i = .inr (ci, fs)) (hc : vwCl[ci]? = some (Cn, T, Nn)) (hn : as.length = np) (hst : st0 = as.reverse ++ gr i :: st) (hcat : (st.map g_cat).sum ≤ 8) (hkn : k ≤ R.cells ∧ n ≤ R.slots) (hdg : decode cc pc = .ok (.invokevirtual ix, 3)) (kk : gJ p l e R s m args below meth c Q nL D g As N ad ln A' loc k n (pc + 3) (gi r :: st)) : gJ p l e R s m args below meth c Q nL D g As N ad ln A loc k n pc st0 := by
  intro H locs ls hP hD hS hl
  have hF := g_frees hD hS C.2.2.2.2.2.2.1
  refine va_calli (va_runV (C := Cn) (b := ad i) (As := as.map (g_v ad)) (rest := st.map (g_v ad)) ⟨C.1, C.2.1, C.2.2.1, C.2.2.2.1, C.2.2.2.2.1⟩ (hM H.size) (cwV np C.2.2.2.2.1 (g_goodV hs) rfl rfl rfl hs.2.2.2.2.2.1 (g_room C.2.2.2.2.2.2.2.2 hd hs.2.2.2.2.2.2)) ⟨g_blind, va_recv C.2.2.2.2.2.1 hP (q0 := i) hc (by rw [gw_at hi, he]), fun U hU hW => ⟨rfl, by rw [hU], by rw [hU]; exact hP, va_K.moved hW.alike C.2.2.2.2.2.1, hD.weaken (fun _ _ _ _ => trivial)⟩⟩ rfl (by rw [List.length_map]; exact hn) hl.1 (by show st0.map (g_v ad) = _; rw [hst]; simp [g_v]) (g_lv hcat) hdg ⟨by omega, by omega⟩) hS (fun q _ h => hF q h) hF (fun r u t H1 locs1 ht hvm hw hB hz1 hk1 hS => ?_)
  subst hw
  obtain ⟨hP1, hK1, hD1⟩ := hB
  rw [ht] at hP1
  exact kk H1 locs1 ls hP1 (hD1.weaken (fun _ _ _ h => hF _ h)) hS hl
theorem g_calliS (C : gC p R s m args meth c cc own nL D g As d) (as : List gV) {st0 : List gV} {ix np mL d' : Nat} {z : MethodName} {b : ByteArray} {rt : Option FieldType} {r : Int32} (hM : gKi l z b mL rt d' D g N ad ln A as A' r) (hs : g_siteS own ix z b mL rt np) (hd : d' + 1 ≤ d) (hn : as.length = np) (hst : st0 = as.reverse ++ st) (hcat : (st.map g_cat).sum ≤ 8) (hkn : k ≤ R.cells ∧ n ≤ R.slots) (hdg : decode cc pc = .ok (.invokestatic ix, 3)) (kk : gJ p l e R s m args below meth c Q nL D g As N ad ln A' loc k n (pc + 3) (gi r :: st)) : gJ p l e R s m args below meth c Q nL D g As N ad ln A loc k n pc st0 := by
  intro H locs ls hP hD hS hl
  have hF := g_frees hD hS C.2.2.2.2.2.2.1
  refine va_calli (va_runS (As := as.map (g_v ad)) (rest := st.map (g_v ad)) ⟨C.1, C.2.1, C.2.2.1, C.2.2.2.1, C.2.2.2.2.1⟩ (hM H.size) (cwS np C.2.2.2.2.1 (g_goodS hs) rfl rfl rfl hs.2.2.2.2.1 (g_room C.2.2.2.2.2.2.2.2 hd hs.2.2.2.2.2)) ⟨g_blind, fun U hU hW => ⟨rfl, by rw [hU], by rw [hU]; exact hP, va_K.moved hW.alike C.2.2.2.2.2.1, hD.weaken (fun _ _ _ _ => trivial)⟩⟩ rfl (by rw [List.length_map]; exact hn) hl.1 (by show st0.map (g_v ad) = _; rw [hst]; simp [g_v]) (g_lv hcat) hdg ⟨by omega, by omega⟩) hS (fun q _ h => hF q h) hF (fun r u t H1 locs1 ht hvm hw hB hz1 hk1 hS => ?_)
  subst hw
  obtain ⟨hP1, hK1, hD1⟩ := hB
  rw [ht] at hP1
  exact kk H1 locs1 ls hP1 (hD1.weaken (fun _ _ _ h => hF _ h)) hS hl
theorem g_calllV (C : gC p R s m args meth c cc own nL D g As d) (i : Nat) (as : List gV) {st0 : List gV} {Cn : String} {ci ix np mL d' : Nat} {z : MethodName} {b : ByteArray} {rt : Option FieldType} {fs : List Value} {T : u_T} {Nn : Nat} {r : Int64} (hM : gKl l z b mL rt d' D g N ad ln A (gr i :: as) A' r) (hs : g_site own Cn ix z b mL rt np) (hd : d' + 1 ≤ d) (hi : i < N) (he : g_ce g ad (g_ln ln i) (A i) i = .inr (ci, fs)) (hc : vwCl[ci]? = some (Cn, T, Nn)) (hn : as.length = np) (hst : st0 = as.reverse ++ gr i :: st) (hcat : (st.map g_cat).sum ≤ 8) (hkn : k ≤ R.cells ∧ n ≤ R.slots) (hdg : decode cc pc = .ok (.invokevirtual ix, 3)) (kk : gJ p l e R s m args below meth c Q nL D g As N ad ln A' loc k n (pc + 3) (gl r :: st)) : gJ p l e R s m args below meth c Q nL D g As N ad ln A loc k n pc st0 := by
  intro H locs ls hP hD hS hl
  have hF := g_frees hD hS C.2.2.2.2.2.2.1
  refine va_calll (va_runV (C := Cn) (b := ad i) (As := as.map (g_v ad)) (rest := st.map (g_v ad)) ⟨C.1, C.2.1, C.2.2.1, C.2.2.2.1, C.2.2.2.2.1⟩ (hM H.size) (cwV np C.2.2.2.2.1 (g_goodV hs) rfl rfl rfl hs.2.2.2.2.2.1 (g_room C.2.2.2.2.2.2.2.2 hd hs.2.2.2.2.2.2)) ⟨g_blind, va_recv C.2.2.2.2.2.1 hP (q0 := i) hc (by rw [gw_at hi, he]), fun U hU hW => ⟨rfl, by rw [hU], by rw [hU]; exact hP, va_K.moved hW.alike C.2.2.2.2.2.1, hD.weaken (fun _ _ _ _ => trivial)⟩⟩ rfl (by rw [List.length_map]; exact hn) hl.1 (by show st0.map (g_v ad) = _; rw [hst]; simp [g_v]) (g_lv hcat) hdg ⟨by omega, by omega⟩) hS (fun q _ h => hF q h) hF (fun r u t H1 locs1 ht hvm hw hB hz1 hk1 hS => ?_)
  subst hw
  obtain ⟨hP1, hK1, hD1⟩ := hB
  rw [ht] at hP1
  exact kk H1 locs1 ls hP1 (hD1.weaken (fun _ _ _ h => hF _ h)) hS hl
theorem g_calllS (C : gC p R s m args meth c cc own nL D g As d) (as : List gV) {st0 : List gV} {ix np mL d' : Nat} {z : MethodName} {b : ByteArray} {rt : Option FieldType} {r : Int64} (hM : gKl l z b mL rt d' D g N ad ln A as A' r) (hs : g_siteS own ix z b mL rt np) (hd : d' + 1 ≤ d) (hn : as.length = np) (hst : st0 = as.reverse ++ st) (hcat : (st.map g_cat).sum ≤ 8) (hkn : k ≤ R.cells ∧ n ≤ R.slots) (hdg : decode cc pc = .ok (.invokestatic ix, 3)) (kk : gJ p l e R s m args below meth c Q nL D g As N ad ln A' loc k n (pc + 3) (gl r :: st)) : gJ p l e R s m args below meth c Q nL D g As N ad ln A loc k n pc st0 := by
  intro H locs ls hP hD hS hl
  have hF := g_frees hD hS C.2.2.2.2.2.2.1
  refine va_calll (va_runS (As := as.map (g_v ad)) (rest := st.map (g_v ad)) ⟨C.1, C.2.1, C.2.2.1, C.2.2.2.1, C.2.2.2.2.1⟩ (hM H.size) (cwS np C.2.2.2.2.1 (g_goodS hs) rfl rfl rfl hs.2.2.2.2.1 (g_room C.2.2.2.2.2.2.2.2 hd hs.2.2.2.2.2)) ⟨g_blind, fun U hU hW => ⟨rfl, by rw [hU], by rw [hU]; exact hP, va_K.moved hW.alike C.2.2.2.2.2.1, hD.weaken (fun _ _ _ _ => trivial)⟩⟩ rfl (by rw [List.length_map]; exact hn) hl.1 (by show st0.map (g_v ad) = _; rw [hst]; simp [g_v]) (g_lv hcat) hdg ⟨by omega, by omega⟩) hS (fun q _ h => hF q h) hF (fun r u t H1 locs1 ht hvm hw hB hz1 hk1 hS => ?_)
  subst hw
  obtain ⟨hP1, hK1, hD1⟩ := hB
  rw [ht] at hP1
  exact kk H1 locs1 ls hP1 (hD1.weaken (fun _ _ _ h => hF _ h)) hS hl
theorem g_callvV (C : gC p R s m args meth c cc own nL D g As d) (i : Nat) (as : List gV) {st0 : List gV} {Cn : String} {ci ix np mL d' : Nat} {z : MethodName} {b : ByteArray} {rt : Option FieldType} {fs : List Value} {T : u_T} {Nn : Nat}  (hM : gKv l z b mL rt d' D g N ad ln A (gr i :: as) A') (hs : g_site own Cn ix z b mL rt np) (hd : d' + 1 ≤ d) (hi : i < N) (he : g_ce g ad (g_ln ln i) (A i) i = .inr (ci, fs)) (hc : vwCl[ci]? = some (Cn, T, Nn)) (hn : as.length = np) (hst : st0 = as.reverse ++ gr i :: st) (hcat : (st.map g_cat).sum ≤ 8) (hkn : k ≤ R.cells ∧ n ≤ R.slots) (hdg : decode cc pc = .ok (.invokevirtual ix, 3)) (kk : gJ p l e R s m args below meth c Q nL D g As N ad ln A' loc k n (pc + 3) (st)) : gJ p l e R s m args below meth c Q nL D g As N ad ln A loc k n pc st0 := by
  intro H locs ls hP hD hS hl
  have hF := g_frees hD hS C.2.2.2.2.2.2.1
  refine va_callv (va_runV (C := Cn) (b := ad i) (As := as.map (g_v ad)) (rest := st.map (g_v ad)) ⟨C.1, C.2.1, C.2.2.1, C.2.2.2.1, C.2.2.2.2.1⟩ (hM H.size) (cwV np C.2.2.2.2.1 (g_goodV hs) rfl rfl rfl hs.2.2.2.2.2.1 (g_room C.2.2.2.2.2.2.2.2 hd hs.2.2.2.2.2.2)) ⟨g_blind, va_recv C.2.2.2.2.2.1 hP (q0 := i) hc (by rw [gw_at hi, he]), fun U hU hW => ⟨rfl, by rw [hU], by rw [hU]; exact hP, va_K.moved hW.alike C.2.2.2.2.2.1, hD.weaken (fun _ _ _ _ => trivial)⟩⟩ rfl (by rw [List.length_map]; exact hn) hl.1 (by show st0.map (g_v ad) = _; rw [hst]; simp [g_v]) (g_lv hcat) hdg ⟨by omega, by omega⟩) hS (fun q _ h => hF q h) hF (fun u t H1 locs1 ht hvm hw hB hz1 hk1 hS => ?_)
  obtain ⟨hP1, hK1, hD1⟩ := hB
  rw [ht] at hP1
  exact kk H1 locs1 ls hP1 (hD1.weaken (fun _ _ _ h => hF _ h)) hS hl
theorem g_callvS (C : gC p R s m args meth c cc own nL D g As d) (as : List gV) {st0 : List gV} {ix np mL d' : Nat} {z : MethodName} {b : ByteArray} {rt : Option FieldType}  (hM : gKv l z b mL rt d' D g N ad ln A as A') (hs : g_siteS own ix z b mL rt np) (hd : d' + 1 ≤ d) (hn : as.length = np) (hst : st0 = as.reverse ++ st) (hcat : (st.map g_cat).sum ≤ 8) (hkn : k ≤ R.cells ∧ n ≤ R.slots) (hdg : decode cc pc = .ok (.invokestatic ix, 3)) (kk : gJ p l e R s m args below meth c Q nL D g As N ad ln A' loc k n (pc + 3) (st)) : gJ p l e R s m args below meth c Q nL D g As N ad ln A loc k n pc st0 := by
  intro H locs ls hP hD hS hl
  have hF := g_frees hD hS C.2.2.2.2.2.2.1
  refine va_callv (va_runS (As := as.map (g_v ad)) (rest := st.map (g_v ad)) ⟨C.1, C.2.1, C.2.2.1, C.2.2.2.1, C.2.2.2.2.1⟩ (hM H.size) (cwS np C.2.2.2.2.1 (g_goodS hs) rfl rfl rfl hs.2.2.2.2.1 (g_room C.2.2.2.2.2.2.2.2 hd hs.2.2.2.2.2)) ⟨g_blind, fun U hU hW => ⟨rfl, by rw [hU], by rw [hU]; exact hP, va_K.moved hW.alike C.2.2.2.2.2.1, hD.weaken (fun _ _ _ _ => trivial)⟩⟩ rfl (by rw [List.length_map]; exact hn) hl.1 (by show st0.map (g_v ad) = _; rw [hst]; simp [g_v]) (g_lv hcat) hdg ⟨by omega, by omega⟩) hS (fun q _ h => hF q h) hF (fun u t H1 locs1 ht hvm hw hB hz1 hk1 hS => ?_)
  obtain ⟨hP1, hK1, hD1⟩ := hB
  rw [ht] at hP1
  exact kk H1 locs1 ls hP1 (hD1.weaken (fun _ _ _ h => hF _ h)) hS hl
theorem g_callrV (C : gC p R s m args meth c cc own nL D g As d) (i : Nat) (as : List gV) {st0 : List gV} {Cn : String} {ci ix np mL d' : Nat} {z : MethodName} {b : ByteArray} {rt : Option FieldType} {fs : List Value} {T : u_T} {Nn : Nat} {r : Nat} (hM : gKr l z b mL rt d' D g N ad ln A (gr i :: as) A' r) (hs : g_site own Cn ix z b mL rt np) (hd : d' + 1 ≤ d) (hi : i < N) (he : g_ce g ad (g_ln ln i) (A i) i = .inr (ci, fs)) (hc : vwCl[ci]? = some (Cn, T, Nn)) (hn : as.length = np) (hst : st0 = as.reverse ++ gr i :: st) (hcat : (st.map g_cat).sum ≤ 8) (hkn : k ≤ R.cells ∧ n ≤ R.slots) (hdg : decode cc pc = .ok (.invokevirtual ix, 3)) (kk : gJ p l e R s m args below meth c Q nL D g As N ad ln A' loc k n (pc + 3) (gr r :: st)) : gJ p l e R s m args below meth c Q nL D g As N ad ln A loc k n pc st0 := by
  intro H locs ls hP hD hS hl
  have hF := g_frees hD hS C.2.2.2.2.2.2.1
  refine va_callr (va_runV (C := Cn) (b := ad i) (As := as.map (g_v ad)) (rest := st.map (g_v ad)) ⟨C.1, C.2.1, C.2.2.1, C.2.2.2.1, C.2.2.2.2.1⟩ (hM H.size) (cwV np C.2.2.2.2.1 (g_goodV hs) rfl rfl rfl hs.2.2.2.2.2.1 (g_room C.2.2.2.2.2.2.2.2 hd hs.2.2.2.2.2.2)) ⟨g_blind, va_recv C.2.2.2.2.2.1 hP (q0 := i) hc (by rw [gw_at hi, he]), fun U hU hW => ⟨rfl, by rw [hU], by rw [hU]; exact hP, va_K.moved hW.alike C.2.2.2.2.2.1, hD.weaken (fun _ _ _ _ => trivial)⟩⟩ rfl (by rw [List.length_map]; exact hn) hl.1 (by show st0.map (g_v ad) = _; rw [hst]; simp [g_v]) (g_lv hcat) hdg ⟨by omega, by omega⟩) hS (fun q _ h => hF q h) hF (fun u ra t H1 locs1 ht hvm hw hB hz1 hk1 hS => ?_)
  obtain ⟨rfl, hP1, hK1, hD1⟩ := hB
  rw [ht] at hP1
  exact kk H1 locs1 ls hP1 (hD1.weaken (fun _ _ _ h => hF _ h)) hS hl
theorem g_callrS (C : gC p R s m args meth c cc own nL D g As d) (as : List gV) {st0 : List gV} {ix np mL d' : Nat} {z : MethodName} {b : ByteArray} {rt : Option FieldType} {r : Nat} (hM : gKr l z b mL rt d' D g N ad ln A as A' r) (hs : g_siteS own ix z b mL rt np) (hd : d' + 1 ≤ d) (hn : as.length = np) (hst : st0 = as.reverse ++ st) (hcat : (st.map g_cat).sum ≤ 8) (hkn : k ≤ R.cells ∧ n ≤ R.slots) (hdg : decode cc pc = .ok (.invokestatic ix, 3)) (kk : gJ p l e R s m args below meth c Q nL D g As N ad ln A' loc k n (pc + 3) (gr r :: st)) : gJ p l e R s m args below meth c Q nL D g As N ad ln A loc k n pc st0 := by
  intro H locs ls hP hD hS hl
  have hF := g_frees hD hS C.2.2.2.2.2.2.1
  refine va_callr (va_runS (As := as.map (g_v ad)) (rest := st.map (g_v ad)) ⟨C.1, C.2.1, C.2.2.1, C.2.2.2.1, C.2.2.2.2.1⟩ (hM H.size) (cwS np C.2.2.2.2.1 (g_goodS hs) rfl rfl rfl hs.2.2.2.2.1 (g_room C.2.2.2.2.2.2.2.2 hd hs.2.2.2.2.2)) ⟨g_blind, fun U hU hW => ⟨rfl, by rw [hU], by rw [hU]; exact hP, va_K.moved hW.alike C.2.2.2.2.2.1, hD.weaken (fun _ _ _ _ => trivial)⟩⟩ rfl (by rw [List.length_map]; exact hn) hl.1 (by show st0.map (g_v ad) = _; rw [hst]; simp [g_v]) (g_lv hcat) hdg ⟨by omega, by omega⟩) hS (fun q _ h => hF q h) hF (fun u ra t H1 locs1 ht hvm hw hB hz1 hk1 hS => ?_)
  obtain ⟨rfl, hP1, hK1, hD1⟩ := hB
  rw [ht] at hP1
  exact kk H1 locs1 ls hP1 (hD1.weaken (fun _ _ _ h => hF _ h)) hS hl
end GK
