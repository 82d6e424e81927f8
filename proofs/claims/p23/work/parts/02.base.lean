/-! THE WHOLE SYSTEM'S MEMORY AS ONE FUNCTION OF TWO NUMBERS: cell, place ↦ Int32. Every cell of the class, of the reference and of the law has a fixed number ('logical cell'). -/
/-- the words of the tables that a call may take along -/
def gtb : List Cond := lw_tbl.filter goodWord
theorem g_tb {w : Cond} (h : w ∈ lw_tbl) (hg : goodWord w = true) : w ∈ gtb := List.mem_filter.mpr ⟨h, hg⟩
def g_ws (y : MethodName) (b : ByteArray) (n : Nat) (r : Option FieldType) : List Cond := Cond.code y b n r :: gtb
theorem g_word {w : Cond} (h : w ∈ gtb) : goodWord w = true := (List.mem_filter.mp h).2
theorem g_inL {z : MethodName} {b2 : ByteArray} {n2 : Nat} {r2 : Option FieldType} (h : Cond.code z b2 n2 r2 ∈ gtb) : GoodIn gtb (g_ws z b2 n2 r2) := by
  intro w hw
  rcases List.mem_cons.mp hw with rfl | hw
  · exact ⟨h, good_of_word (g_word h)⟩
  · exact ⟨hw, good_of_word (g_word hw)⟩
abbrev gM : Type := Nat → Nat → Int32
/-- class ids of int[], int[][] -/
abbrev gT : Type := ClassId × ClassId
abbrev gV : Type := Nat ⊕ Value
abbrev gi (x : Int32) : gV := .inr (.int x)
abbrev gl (x : Int64) : gV := .inr (.long x)
abbrev gd (x : UInt64) : gV := .inr (.double x)
abbrev gr (i : Nat) : gV := .inl i
def g_v (ad : Nat → Nat) : gV → Value
  | .inl i => .ref (ad i)
  | .inr v => v
def g_q (ad : Nat → Nat) (q : Nat × gV) : Nat × Value := (q.1, g_v ad q.2)
/-- the outer array of rows b, b + 1, .. -/
def g_out (ad : Nat → Nat) (b : Nat) : vp_A := (40, .inr (.inr (.inr (.inr (fun j => if j < 40 then some (ad (b + j)) else none)))))
/-- the law's arrays of rows: a place names a cell ahead of its own, or none -/
def g_rf (ad : Nat → Nat) (f : Nat → Int32) (i : Nat) : Nat → Option Nat := fun j => if f j < 0 ∨ i ≤ (f j).toNatClampNeg then none else some (ad (f j).toNatClampNeg)
/-- what a cell of number i with row f is (n: its places; 1000 and more: an array of rows, of n - 1000 places) -/
def g_ce (g : gT) (ad : Nat → Nat) (n : Nat) (f : Nat → Int32) (i : Nat) : va_E :=
  if i = 129 then .inr (4, [.ref (ad 130), .ref (ad 131), .ref (ad 132), .ref (ad 133), .ref (ad 134), .ref (ad 135), .ref (ad 136), .ref (ad 137), .int (f 8), .int (f 9), .int (f 10)])
  else if i = 0 then .inr (5, [.ref (ad 1), .ref (ad 43), .ref (ad 128)])
  else if i = 1 then .inr (2, [.ref (ad 2), .int (f 1)])
  else if i = 43 then .inr (3, [.ref (ad 44), .ref (ad 85), .ref (ad 126), .ref (ad 127)])
  else if i = 128 then .inr (0, [.ref (ad 129), .ref (ad 138), .ref (ad 182), .int (f 3), .int (f 4)])
  else if i = 138 then .inr (1, [.ref (ad 139), .ref (ad 140), .ref (ad 181), .int (f 3)])
  else if i = 2 then .inl (g.2, g_out ad 3)
  else if i = 44 then .inl (g.2, g_out ad 45)
  else if i = 85 then .inl (g.2, g_out ad 86)
  else if i = 140 then .inl (g.2, g_out ad 141)
  else if 183 ≤ i ∧ 1000 ≤ n then .inl (g.2, n - 1000, .inr (.inr (.inr (.inr (g_rf ad f i)))))
  else .inl (g.1, n, .inl f)
/-- the plain int arrays of the class -/
def g_isI (i : Nat) : Bool := decide (i < 183) && !([129, 0, 1, 43, 128, 138, 2, 44, 85, 140].contains i)
theorem g_ce_I {g : gT} {ad : Nat → Nat} {n : Nat} {f : Nat → Int32} {i : Nat} (h : g_isI i = true) : g_ce g ad n f i = .inl (g.1, n, .inl f) := by
  have h : i < 183 ∧ ¬ (i = 129 ∨ i = 0 ∨ i = 1 ∨ i = 43 ∨ i = 128 ∨ i = 138 ∨ i = 2 ∨ i = 44 ∨ i = 85 ∨ i = 140) := by
    simpa [g_isI] using h
  unfold g_ce
  rw [if_neg (by omega), if_neg (by omega), if_neg (by omega), if_neg (by omega), if_neg (by omega), if_neg (by omega), if_neg (by omega), if_neg (by omega), if_neg (by omega), if_neg (by omega), if_neg (by omega)]
/-- the law's rows of numbers, and its arrays of rows -/
theorem g_ce_J {g : gT} {ad : Nat → Nat} {n : Nat} {f : Nat → Int32} {i : Nat} (h : 183 ≤ i) (hn : n < 1000) : g_ce g ad n f i = .inl (g.1, n, .inl f) := by
  unfold g_ce
  rw [if_neg (by omega), if_neg (by omega), if_neg (by omega), if_neg (by omega), if_neg (by omega), if_neg (by omega), if_neg (by omega), if_neg (by omega), if_neg (by omega), if_neg (by omega), if_neg (by omega)]
theorem g_ce_R {g : gT} {ad : Nat → Nat} {n : Nat} {f : Nat → Int32} {i : Nat} (h : 183 ≤ i) (hn : 1000 ≤ n) : g_ce g ad n f i = .inl (g.2, n - 1000, .inr (.inr (.inr (.inr (g_rf ad f i))))) := by
  unfold g_ce
  rw [if_neg (by omega), if_neg (by omega), if_neg (by omega), if_neg (by omega), if_neg (by omega), if_neg (by omega), if_neg (by omega), if_neg (by omega), if_neg (by omega), if_neg (by omega), if_pos ⟨h, hn⟩]
def g_len (i : Nat) : Nat :=
  if i < 43 then 7 else if i < 85 then 60 else if i < 126 then 5 else if i < 128 then 60 else if i < 134 then 2600 else if i < 137 then 5208 else if i < 138 then 60 else if i < 140 then 40 else if i < 181 then 60 else if i < 182 then 40 else 60
/-- how many places cell i has: ln says it of the law's -/
def g_ln (ln : Nat → Nat) (i : Nat) : Nat := if 183 ≤ i then ln i else g_len i
theorem g_ln_c {ln : Nat → Nat} {i : Nat} (h : i < 183) : g_ln ln i = g_len i := if_neg (by omega)
theorem g_ln_b {ln : Nat → Nat} {i : Nat} (h : 183 ≤ i) : g_ln ln i = ln i := if_pos h
def gw (g : gT) (ad ln : Nat → Nat) (A : gM) (N : Nat) : va_W := (List.range N).map (fun i => (ad i, g_ce g ad (g_ln ln i) (A i) i))
theorem gw_at {g : gT} {ad ln : Nat → Nat} {A : gM} {N i : Nat} (h : i < N) : (gw g ad ln A N)[i]? = some (ad i, g_ce g ad (g_ln ln i) (A i) i) := by
  simp [gw, h]
theorem gw_of {g : gT} {ad ln : Nat → Nat} {A : gM} {N k : Nat} {q : Nat × va_E} (h : (gw g ad ln A N)[k]? = some q) : k < N ∧ q = (ad k, g_ce g ad (g_ln ln k) (A k) k) := by
  have hk : k < N := by
    have := (List.getElem?_eq_some_iff.mp h).1
    simpa [gw] using this
  refine ⟨hk, ?_⟩
  rw [gw_at hk] at h
  exact (Option.some.inj h).symm
/-- row i of A becomes f -/
def g_row (A : gM) (i : Nat) (f : Nat → Int32) : gM := fun a => if a = i then f else A a
/-- place j of cell i becomes v -/
def g_up (A : gM) (i j : Nat) (v : Int32) : gM := g_row A i (upd (A i) j v)
theorem g_row_s {A : gM} {i : Nat} {f : Nat → Int32} : g_row A i f i = f := if_pos rfl
theorem g_row_n {A : gM} {i a : Nat} {f : Nat → Int32} (h : a ≠ i) : g_row A i f a = A a := if_neg h
theorem gw_set {g : gT} {ad ln : Nat → Nat} {A : gM} {N i : Nat} {f : Nat → Int32} (h : i < N) : (gw g ad ln A N).set i (ad i, g_ce g ad (g_ln ln i) f i) = gw g ad ln (g_row A i f) N := by
  apply List.ext_getElem?
  intro k
  rw [List.getElem?_set]
  by_cases hk : k < N
  · rw [gw_at hk]
    by_cases e : i = k
    · subst e
      rw [if_pos rfl, if_pos (by simpa [gw] using h), gw_at h, g_row_s]
    · rw [if_neg e, gw_at hk, g_row_n (fun q => e q.symm)]
  · have h2 : (gw g ad ln (g_row A i f) N)[k]? = none := by
      rw [List.getElem?_eq_none_iff]; simp [gw]; omega
    rw [h2, if_neg (by omega), List.getElem?_eq_none_iff]
    simp [gw]; omega
abbrev g_tys (g : gT) : List (ClassId × FieldType) := [(g.1, .int), (g.2, .array .int)]
section GJ
variable {p : Program} {l : Launch} {e : Env} {R : Room} {s : State} {m : MethodId} {args : Array Value} {below : List Frame} {meth : Method} {c : Code} {Q : State → Prop} {nL : Nat} {D : va_G} {g : gT} {As : Nat → Prop} {N : Nat} {ad ln : Nat → Nat} {A : gM} {loc loc' : List (Nat × gV)} {k n pc : Nat} {st : List gV} {cc : ByteArray} {own : String} {d : Nat}
/-- the machine at pc, the world gw, locals loc, operands st, comes to Q -/
def gJ (p : Program) (l : Launch) (e : Env) (R : Room) (s : State) (m : MethodId) (args : Array Value) (below : List Frame) (meth : Method) (c : Code) (Q : State → Prop) (nL : Nat) (D : va_G) (g : gT) (As : Nat → Prop) (N : Nat) (ad ln : Nat → Nat) (A : gM) (loc : List (Nat × gV)) (k n pc : Nat) (st : List gV) : Prop :=
  ∀ (H : Heap) (locs : List Loc) (ls : Array Slot), va_P D vwCl (gw g ad ln A N) H → va_D As (gw g ad ln A N) → va_S As s.heap H locs → lv_has ls nL (loc.map (g_q ad)) → W p l e R s m args below meth c H locs k n Q (F0 m pc ls (st.map (g_v ad)))
/-- what stays while a method runs -/
def gC (p : Program) (R : Room) (s : State) (m : MethodId) (args : Array Value) (meth : Method) (c : Code) (cc : ByteArray) (own : String) (nL : Nat) (D : va_G) (g : gT) (As : Nat → Prop) (d : Nat) : Prop :=
  p.tables.exec = Jvm.exec ∧ c.code = cc ∧ c.maxLocals = nL ∧ s.vm.findClass own = some m.cls ∧ (∀ w ∈ gtb, w.before args s = true) ∧ va_K D vwCl (g_tys g) s ∧ (∀ q : Nat, s.heap.size ≤ q → As q) ∧ meth.locks = false ∧ d ≤ R.frames ∧ 40 * d ≤ R.locals
theorem g_pc {pc2 : Nat} (h : pc = pc2) (kk : gJ p l e R s m args below meth c Q nL D g As N ad ln A loc k n pc2 st) : gJ p l e R s m args below meth c Q nL D g As N ad ln A loc k n pc st := h ▸ kk
theorem g_mem {A2 : gM} (h : A = A2) (kk : gJ p l e R s m args below meth c Q nL D g As N ad ln A2 loc k n pc st) : gJ p l e R s m args below meth c Q nL D g As N ad ln A loc k n pc st := h ▸ kk
theorem g_sub (ks : List Nat) (h : ks.filterMap (fun i => loc[i]?) = loc') (kk : gJ p l e R s m args below meth c Q nL D g As N ad ln A loc' k n pc st) : gJ p l e R s m args below meth c Q nL D g As N ad ln A loc k n pc st := by
  intro H locs ls hP hD hS hl
  refine kk H locs ls hP hD hS ⟨hl.1, hl.2.1, fun q hq => hl.2.2 q ?_⟩
  obtain ⟨q0, h0, rfl⟩ := List.mem_map.mp hq
  rw [← h] at h0
  obtain ⟨i, -, hi⟩ := List.mem_filterMap.mp h0
  exact List.mem_map.mpr ⟨q0, List.mem_of_getElem? hi, rfl⟩
variable (C : gC p R s m args meth c cc own nL D g As d)
theorem g_at {ad : Nat → Nat} {loc : List (Nat × gV)} {ls : Array Slot} {q i : Nat} {v : gV} (hl : lv_has ls nL (loc.map (g_q ad))) (h : loc[q]? = some (i, v)) : ls[i]? = some (.val (g_v ad v)) :=
  lv_at hl q (by rw [List.getElem?_map, h]; rfl)
theorem g_iconst (C : gC p R s m args meth c cc own nL D g As d) {v : Int32} {z : Int} (hdg : decode cc pc = .ok (.iconst z, 1)) (hv : Int32.ofInt z = v) (kk : gJ p l e R s m args below meth c Q nL D g As N ad ln A loc k n (pc + 1) (gi v :: st)) : gJ p l e R s m args below meth c Q nL D g As N ad ln A loc k n pc (st) := fun H locs ls hP hD hS hl => lv_iconst C.1 C.2.1 hdg hv (kk H locs ls hP hD hS hl)
theorem g_bipush (C : gC p R s m args meth c cc own nL D g As d) {v : Int32} {z : Int} (hdg : decode cc pc = .ok (.bipush z, 2)) (hv : (Int8.ofInt z).toInt32 = v) (kk : gJ p l e R s m args below meth c Q nL D g As N ad ln A loc k n (pc + 2) (gi v :: st)) : gJ p l e R s m args below meth c Q nL D g As N ad ln A loc k n pc (st) := fun H locs ls hP hD hS hl => lv_bipush C.1 C.2.1 hdg hv (kk H locs ls hP hD hS hl)
theorem g_sipush (C : gC p R s m args meth c cc own nL D g As d) {v : Int32} {z : Int} (hdg : decode cc pc = .ok (.sipush z, 3)) (hv : (Int16.ofInt z).toInt32 = v) (kk : gJ p l e R s m args below meth c Q nL D g As N ad ln A loc k n (pc + 3) (gi v :: st)) : gJ p l e R s m args below meth c Q nL D g As N ad ln A loc k n pc (st) := fun H locs ls hP hD hS hl => lv_sipush C.1 C.2.1 hdg hv (kk H locs ls hP hD hS hl)
theorem g_lconst (C : gC p R s m args meth c cc own nL D g As d) {v : Int64} {z : Fin 2} (hdg : decode cc pc = .ok (.lconst z, 1)) (hv : Int64.ofNat (z : Nat) = v) (kk : gJ p l e R s m args below meth c Q nL D g As N ad ln A loc k n (pc + 1) (gl v :: st)) : gJ p l e R s m args below meth c Q nL D g As N ad ln A loc k n pc (st) := fun H locs ls hP hD hS hl => lv_lconst C.1 C.2.1 hdg hv (kk H locs ls hP hD hS hl)
theorem g_ldc (C : gC p R s m args meth c cc own nL D g As d) {v : Int32} {ix : Nat} (hw : Cond.constant own ix v ∈ gtb) (hdg : decode cc pc = .ok (.ldc ix, 2)) (kk : gJ p l e R s m args below meth c Q nL D g As N ad ln A loc k n (pc + 2) (gi v :: st)) : gJ p l e R s m args below meth c Q nL D g As N ad ln A loc k n pc (st) := fun H locs ls hP hD hS hl => lv_ldc C.1 C.2.1 C.2.2.2.1 (C.2.2.2.2.1 _ hw) hdg (kk H locs ls hP hD hS hl)
theorem g_ldc2 (C : gC p R s m args meth c cc own nL D g As d) {v : Int64} {ix : Nat} (hw : Cond.constantLong own ix v ∈ gtb) (hdg : decode cc pc = .ok (.ldc2_w ix, 3)) (kk : gJ p l e R s m args below meth c Q nL D g As N ad ln A loc k n (pc + 3) (gl v :: st)) : gJ p l e R s m args below meth c Q nL D g As N ad ln A loc k n pc (st) := fun H locs ls hP hD hS hl => lv_ldc2 C.1 C.2.1 C.2.2.2.1 (C.2.2.2.2.1 _ hw) hdg (kk H locs ls hP hD hS hl)
theorem g_dconst0 (C : gC p R s m args meth c cc own nL D g As d) (hdg : decode cc pc = .ok (.dconst 0, 1)) (kk : gJ p l e R s m args below meth c Q nL D g As N ad ln A loc k n (pc + 1) (gd 0 :: st)) : gJ p l e R s m args below meth c Q nL D g As N ad ln A loc k n pc (st) := fun H locs ls hP hD hS hl => lv_dconst0 C.1 C.2.1 hdg (kk H locs ls hP hD hS hl)
theorem g_iload_n (C : gC p R s m args meth c cc own nL D g As d) (q : Nat) {x : Int32} {z : Fin 4} (hdg : decode cc pc = .ok (.iload_n z, 1)) (h : loc[q]? = some ((z : Nat), gi x)) (kk : gJ p l e R s m args below meth c Q nL D g As N ad ln A loc k n (pc + 1) (gi x :: st)) : gJ p l e R s m args below meth c Q nL D g As N ad ln A loc k n pc (st) := fun H locs ls hP hD hS hl => lv_iload_n C.1 C.2.1 hdg rfl (g_at hl h) (kk H locs ls hP hD hS hl)
theorem g_iload (C : gC p R s m args meth c cc own nL D g As d) (q : Nat) {x : Int32} {i : Nat} (hdg : decode cc pc = .ok (.iload i, 2)) (h : loc[q]? = some (i, gi x)) (kk : gJ p l e R s m args below meth c Q nL D g As N ad ln A loc k n (pc + 2) (gi x :: st)) : gJ p l e R s m args below meth c Q nL D g As N ad ln A loc k n pc (st) := fun H locs ls hP hD hS hl => lv_iload C.1 C.2.1 hdg (g_at hl h) (kk H locs ls hP hD hS hl)
theorem g_lload_n (C : gC p R s m args meth c cc own nL D g As d) (q : Nat) {x : Int64} {z : Fin 4} (hdg : decode cc pc = .ok (.lload_n z, 1)) (h : loc[q]? = some ((z : Nat), gl x)) (kk : gJ p l e R s m args below meth c Q nL D g As N ad ln A loc k n (pc + 1) (gl x :: st)) : gJ p l e R s m args below meth c Q nL D g As N ad ln A loc k n pc (st) := fun H locs ls hP hD hS hl => lv_lload_n C.1 C.2.1 hdg rfl (g_at hl h) (kk H locs ls hP hD hS hl)
theorem g_lload (C : gC p R s m args meth c cc own nL D g As d) (q : Nat) {x : Int64} {i : Nat} (hdg : decode cc pc = .ok (.lload i, 2)) (h : loc[q]? = some (i, gl x)) (kk : gJ p l e R s m args below meth c Q nL D g As N ad ln A loc k n (pc + 2) (gl x :: st)) : gJ p l e R s m args below meth c Q nL D g As N ad ln A loc k n pc (st) := fun H locs ls hP hD hS hl => lv_lload C.1 C.2.1 hdg (g_at hl h) (kk H locs ls hP hD hS hl)
theorem g_aload_n (C : gC p R s m args meth c cc own nL D g As d) (q : Nat) {x : Nat} {z : Fin 4} (hdg : decode cc pc = .ok (.aload_n z, 1)) (h : loc[q]? = some ((z : Nat), gr x)) (kk : gJ p l e R s m args below meth c Q nL D g As N ad ln A loc k n (pc + 1) (gr x :: st)) : gJ p l e R s m args below meth c Q nL D g As N ad ln A loc k n pc (st) := fun H locs ls hP hD hS hl => lv_aload_n C.1 C.2.1 hdg rfl (g_at hl h) (kk H locs ls hP hD hS hl)
theorem g_aload (C : gC p R s m args meth c cc own nL D g As d) (q : Nat) {x : Nat} {i : Nat} (hdg : decode cc pc = .ok (.aload i, 2)) (h : loc[q]? = some (i, gr x)) (kk : gJ p l e R s m args below meth c Q nL D g As N ad ln A loc k n (pc + 2) (gr x :: st)) : gJ p l e R s m args below meth c Q nL D g As N ad ln A loc k n pc (st) := fun H locs ls hP hD hS hl => lv_aload C.1 C.2.1 hdg (g_at hl h) (kk H locs ls hP hD hS hl)
theorem g_dload_n (C : gC p R s m args meth c cc own nL D g As d) (q : Nat) {x : UInt64} {z : Fin 4} (hdg : decode cc pc = .ok (.dload_n z, 1)) (h : loc[q]? = some ((z : Nat), gd x)) (kk : gJ p l e R s m args below meth c Q nL D g As N ad ln A loc k n (pc + 1) (gd x :: st)) : gJ p l e R s m args below meth c Q nL D g As N ad ln A loc k n pc (st) := fun H locs ls hP hD hS hl => lv_dload_n C.1 C.2.1 hdg rfl (g_at hl h) (kk H locs ls hP hD hS hl)
theorem g_dload (C : gC p R s m args meth c cc own nL D g As d) (q : Nat) {x : UInt64} {i : Nat} (hdg : decode cc pc = .ok (.dload i, 2)) (h : loc[q]? = some (i, gd x)) (kk : gJ p l e R s m args below meth c Q nL D g As N ad ln A loc k n (pc + 2) (gd x :: st)) : gJ p l e R s m args below meth c Q nL D g As N ad ln A loc k n pc (st) := fun H locs ls hP hD hS hl => lv_dload C.1 C.2.1 hdg (g_at hl h) (kk H locs ls hP hD hS hl)
theorem g_iadd (C : gC p R s m args meth c cc own nL D g As d) {x y : Int32} (hdg : decode cc pc = .ok (.iadd, 1)) (kk : gJ p l e R s m args below meth c Q nL D g As N ad ln A loc k n (pc + 1) (gi (x + y) :: st)) : gJ p l e R s m args below meth c Q nL D g As N ad ln A loc k n pc (gi y :: gi x :: st) := fun H locs ls hP hD hS hl => lv_iadd C.1 C.2.1 hdg (kk H locs ls hP hD hS hl)
theorem g_isub (C : gC p R s m args meth c cc own nL D g As d) {x y : Int32} (hdg : decode cc pc = .ok (.isub, 1)) (kk : gJ p l e R s m args below meth c Q nL D g As N ad ln A loc k n (pc + 1) (gi (x - y) :: st)) : gJ p l e R s m args below meth c Q nL D g As N ad ln A loc k n pc (gi y :: gi x :: st) := fun H locs ls hP hD hS hl => lv_isub C.1 C.2.1 hdg (kk H locs ls hP hD hS hl)
theorem g_imul (C : gC p R s m args meth c cc own nL D g As d) {x y : Int32} (hdg : decode cc pc = .ok (.imul, 1)) (kk : gJ p l e R s m args below meth c Q nL D g As N ad ln A loc k n (pc + 1) (gi (x * y) :: st)) : gJ p l e R s m args below meth c Q nL D g As N ad ln A loc k n pc (gi y :: gi x :: st) := fun H locs ls hP hD hS hl => lv_imul C.1 C.2.1 hdg (kk H locs ls hP hD hS hl)
theorem g_iand (C : gC p R s m args meth c cc own nL D g As d) {x y : Int32} (hdg : decode cc pc = .ok (.iand, 1)) (kk : gJ p l e R s m args below meth c Q nL D g As N ad ln A loc k n (pc + 1) (gi (x &&& y) :: st)) : gJ p l e R s m args below meth c Q nL D g As N ad ln A loc k n pc (gi y :: gi x :: st) := fun H locs ls hP hD hS hl => lv_iand C.1 C.2.1 hdg (kk H locs ls hP hD hS hl)
theorem g_ladd (C : gC p R s m args meth c cc own nL D g As d) {x y : Int64} (hdg : decode cc pc = .ok (.ladd, 1)) (kk : gJ p l e R s m args below meth c Q nL D g As N ad ln A loc k n (pc + 1) (gl (x + y) :: st)) : gJ p l e R s m args below meth c Q nL D g As N ad ln A loc k n pc (gl y :: gl x :: st) := fun H locs ls hP hD hS hl => lv_ladd C.1 C.2.1 hdg (kk H locs ls hP hD hS hl)
theorem g_lmul (C : gC p R s m args meth c cc own nL D g As d) {x y : Int64} (hdg : decode cc pc = .ok (.lmul, 1)) (kk : gJ p l e R s m args below meth c Q nL D g As N ad ln A loc k n (pc + 1) (gl (x * y) :: st)) : gJ p l e R s m args below meth c Q nL D g As N ad ln A loc k n pc (gl y :: gl x :: st) := fun H locs ls hP hD hS hl => lv_lmul C.1 C.2.1 hdg (kk H locs ls hP hD hS hl)
theorem g_i2l (C : gC p R s m args meth c cc own nL D g As d) {x : Int32} (hdg : decode cc pc = .ok (.i2l, 1)) (kk : gJ p l e R s m args below meth c Q nL D g As N ad ln A loc k n (pc + 1) (gl x.toInt64 :: st)) : gJ p l e R s m args below meth c Q nL D g As N ad ln A loc k n pc (gi x :: st) := fun H locs ls hP hD hS hl => lv_i2l C.1 C.2.1 hdg rfl (kk H locs ls hP hD hS hl)
theorem g_i2d (C : gC p R s m args meth c cc own nL D g As d) {x : Int32} (hdg : decode cc pc = .ok (.i2d, 1)) (kk : gJ p l e R s m args below meth c Q nL D g As N ad ln A loc k n (pc + 1) (gd (FP.i2d x) :: st)) : gJ p l e R s m args below meth c Q nL D g As N ad ln A loc k n pc (gi x :: st) := fun H locs ls hP hD hS hl => lv_i2d C.1 C.2.1 hdg (kk H locs ls hP hD hS hl)
theorem g_lcmp (C : gC p R s m args meth c cc own nL D g As d) {x y : Int64} (hdg : decode cc pc = .ok (.lcmp, 1)) (kk : gJ p l e R s m args below meth c Q nL D g As N ad ln A loc k n (pc + 1) (gi (lg_cmp x y) :: st)) : gJ p l e R s m args below meth c Q nL D g As N ad ln A loc k n pc (gl y :: gl x :: st) := fun H locs ls hP hD hS hl => W.lcmp C.1 C.2.1 hdg (kk H locs ls hP hD hS hl)
theorem g_dcmp (C : gC p R s m args meth c cc own nL D g As d) {x y : UInt64} {op : CmpOp} (hdg : decode cc pc = .ok (.dcmp op, 1)) (kk : gJ p l e R s m args below meth c Q nL D g As N ad ln A loc k n (pc + 1) (gi (Op.cmpValue (FP.dcmp x y) op) :: st)) : gJ p l e R s m args below meth c Q nL D g As N ad ln A loc k n pc (gd y :: gd x :: st) := fun H locs ls hP hD hS hl => lv_dcmp C.1 C.2.1 hdg (kk H locs ls hP hD hS hl)
theorem g_dup_r (C : gC p R s m args meth c cc own nL D g As d) {x : Nat} (hdg : decode cc pc = .ok (.dup, 1)) (kk : gJ p l e R s m args below meth c Q nL D g As N ad ln A loc k n (pc + 1) (gr x :: gr x :: st)) : gJ p l e R s m args below meth c Q nL D g As N ad ln A loc k n pc (gr x :: st) := fun H locs ls hP hD hS hl => lv_dup C.1 C.2.1 hdg rfl (kk H locs ls hP hD hS hl)
theorem g_dup_i (C : gC p R s m args meth c cc own nL D g As d) {x : Int32} (hdg : decode cc pc = .ok (.dup, 1)) (kk : gJ p l e R s m args below meth c Q nL D g As N ad ln A loc k n (pc + 1) (gi x :: gi x :: st)) : gJ p l e R s m args below meth c Q nL D g As N ad ln A loc k n pc (gi x :: st) := fun H locs ls hP hD hS hl => lv_dup C.1 C.2.1 hdg rfl (kk H locs ls hP hD hS hl)
theorem g_pop_i (C : gC p R s m args meth c cc own nL D g As d) {x : Int32} (hdg : decode cc pc = .ok (.pop, 1)) (kk : gJ p l e R s m args below meth c Q nL D g As N ad ln A loc k n (pc + 1) (st)) : gJ p l e R s m args below meth c Q nL D g As N ad ln A loc k n pc (gi x :: st) := fun H locs ls hP hD hS hl => lv_pop C.1 C.2.1 hdg rfl (kk H locs ls hP hD hS hl)
theorem g_if_eq (C : gC p R s m args meth c cc own nL D g As d) {x : Int32} {off : Int} {tgt : Nat} (hdg : decode cc pc = .ok (.ifCond .eq off, 3)) (ht : (pc : Int) + off = (tgt : Int)) (kt : x = 0 → gJ p l e R s m args below meth c Q nL D g As N ad ln A loc k n tgt st) (kf : ¬ x = 0 → gJ p l e R s m args below meth c Q nL D g As N ad ln A loc k n (pc + 3) st) : gJ p l e R s m args below meth c Q nL D g As N ad ln A loc k n pc (gi x :: st) := fun H locs ls hP hD hS hl => lv_if_eq C.1 C.2.1 hdg ht (fun q => kt q H locs ls hP hD hS hl) (fun q => kf q H locs ls hP hD hS hl)
theorem g_if_ne (C : gC p R s m args meth c cc own nL D g As d) {x : Int32} {off : Int} {tgt : Nat} (hdg : decode cc pc = .ok (.ifCond .ne off, 3)) (ht : (pc : Int) + off = (tgt : Int)) (kt : ¬ x = 0 → gJ p l e R s m args below meth c Q nL D g As N ad ln A loc k n tgt st) (kf : x = 0 → gJ p l e R s m args below meth c Q nL D g As N ad ln A loc k n (pc + 3) st) : gJ p l e R s m args below meth c Q nL D g As N ad ln A loc k n pc (gi x :: st) := fun H locs ls hP hD hS hl => lv_if_ne C.1 C.2.1 hdg ht (fun q => kt q H locs ls hP hD hS hl) (fun q => kf q H locs ls hP hD hS hl)
theorem g_if_lt (C : gC p R s m args meth c cc own nL D g As d) {x : Int32} {off : Int} {tgt : Nat} (hdg : decode cc pc = .ok (.ifCond .lt off, 3)) (ht : (pc : Int) + off = (tgt : Int)) (kt : x < 0 → gJ p l e R s m args below meth c Q nL D g As N ad ln A loc k n tgt st) (kf : ¬ x < 0 → gJ p l e R s m args below meth c Q nL D g As N ad ln A loc k n (pc + 3) st) : gJ p l e R s m args below meth c Q nL D g As N ad ln A loc k n pc (gi x :: st) := fun H locs ls hP hD hS hl => lv_if_lt C.1 C.2.1 hdg ht (fun q => kt q H locs ls hP hD hS hl) (fun q => kf q H locs ls hP hD hS hl)
theorem g_if_ge (C : gC p R s m args meth c cc own nL D g As d) {x : Int32} {off : Int} {tgt : Nat} (hdg : decode cc pc = .ok (.ifCond .ge off, 3)) (ht : (pc : Int) + off = (tgt : Int)) (kt : 0 ≤ x → gJ p l e R s m args below meth c Q nL D g As N ad ln A loc k n tgt st) (kf : ¬ 0 ≤ x → gJ p l e R s m args below meth c Q nL D g As N ad ln A loc k n (pc + 3) st) : gJ p l e R s m args below meth c Q nL D g As N ad ln A loc k n pc (gi x :: st) := fun H locs ls hP hD hS hl => lv_if_ge C.1 C.2.1 hdg ht (fun q => kt q H locs ls hP hD hS hl) (fun q => kf q H locs ls hP hD hS hl)
theorem g_if_gt (C : gC p R s m args meth c cc own nL D g As d) {x : Int32} {off : Int} {tgt : Nat} (hdg : decode cc pc = .ok (.ifCond .gt off, 3)) (ht : (pc : Int) + off = (tgt : Int)) (kt : 0 < x → gJ p l e R s m args below meth c Q nL D g As N ad ln A loc k n tgt st) (kf : ¬ 0 < x → gJ p l e R s m args below meth c Q nL D g As N ad ln A loc k n (pc + 3) st) : gJ p l e R s m args below meth c Q nL D g As N ad ln A loc k n pc (gi x :: st) := fun H locs ls hP hD hS hl => lv_if_gt C.1 C.2.1 hdg ht (fun q => kt q H locs ls hP hD hS hl) (fun q => kf q H locs ls hP hD hS hl)
theorem g_if_le (C : gC p R s m args meth c cc own nL D g As d) {x : Int32} {off : Int} {tgt : Nat} (hdg : decode cc pc = .ok (.ifCond .le off, 3)) (ht : (pc : Int) + off = (tgt : Int)) (kt : x ≤ 0 → gJ p l e R s m args below meth c Q nL D g As N ad ln A loc k n tgt st) (kf : ¬ x ≤ 0 → gJ p l e R s m args below meth c Q nL D g As N ad ln A loc k n (pc + 3) st) : gJ p l e R s m args below meth c Q nL D g As N ad ln A loc k n pc (gi x :: st) := fun H locs ls hP hD hS hl => lv_if_le C.1 C.2.1 hdg ht (fun q => kt q H locs ls hP hD hS hl) (fun q => kf q H locs ls hP hD hS hl)
theorem g_icmp_eq (C : gC p R s m args meth c cc own nL D g As d) {x y : Int32} {off : Int} {tgt : Nat} (hdg : decode cc pc = .ok (.if_icmp .eq off, 3)) (ht : (pc : Int) + off = (tgt : Int)) (kt : x = y → gJ p l e R s m args below meth c Q nL D g As N ad ln A loc k n tgt st) (kf : ¬ x = y → gJ p l e R s m args below meth c Q nL D g As N ad ln A loc k n (pc + 3) st) : gJ p l e R s m args below meth c Q nL D g As N ad ln A loc k n pc (gi y :: gi x :: st) := fun H locs ls hP hD hS hl => lv_icmp_eq C.1 C.2.1 hdg ht (fun q => kt q H locs ls hP hD hS hl) (fun q => kf q H locs ls hP hD hS hl)
theorem g_icmp_ne (C : gC p R s m args meth c cc own nL D g As d) {x y : Int32} {off : Int} {tgt : Nat} (hdg : decode cc pc = .ok (.if_icmp .ne off, 3)) (ht : (pc : Int) + off = (tgt : Int)) (kt : ¬ x = y → gJ p l e R s m args below meth c Q nL D g As N ad ln A loc k n tgt st) (kf : x = y → gJ p l e R s m args below meth c Q nL D g As N ad ln A loc k n (pc + 3) st) : gJ p l e R s m args below meth c Q nL D g As N ad ln A loc k n pc (gi y :: gi x :: st) := fun H locs ls hP hD hS hl => lv_icmp_ne C.1 C.2.1 hdg ht (fun q => kt q H locs ls hP hD hS hl) (fun q => kf q H locs ls hP hD hS hl)
theorem g_icmp_lt (C : gC p R s m args meth c cc own nL D g As d) {x y : Int32} {off : Int} {tgt : Nat} (hdg : decode cc pc = .ok (.if_icmp .lt off, 3)) (ht : (pc : Int) + off = (tgt : Int)) (kt : x < y → gJ p l e R s m args below meth c Q nL D g As N ad ln A loc k n tgt st) (kf : ¬ x < y → gJ p l e R s m args below meth c Q nL D g As N ad ln A loc k n (pc + 3) st) : gJ p l e R s m args below meth c Q nL D g As N ad ln A loc k n pc (gi y :: gi x :: st) := fun H locs ls hP hD hS hl => lv_icmp_lt C.1 C.2.1 hdg ht (fun q => kt q H locs ls hP hD hS hl) (fun q => kf q H locs ls hP hD hS hl)
theorem g_icmp_ge (C : gC p R s m args meth c cc own nL D g As d) {x y : Int32} {off : Int} {tgt : Nat} (hdg : decode cc pc = .ok (.if_icmp .ge off, 3)) (ht : (pc : Int) + off = (tgt : Int)) (kt : y ≤ x → gJ p l e R s m args below meth c Q nL D g As N ad ln A loc k n tgt st) (kf : ¬ y ≤ x → gJ p l e R s m args below meth c Q nL D g As N ad ln A loc k n (pc + 3) st) : gJ p l e R s m args below meth c Q nL D g As N ad ln A loc k n pc (gi y :: gi x :: st) := fun H locs ls hP hD hS hl => lv_icmp_ge C.1 C.2.1 hdg ht (fun q => kt q H locs ls hP hD hS hl) (fun q => kf q H locs ls hP hD hS hl)
theorem g_icmp_gt (C : gC p R s m args meth c cc own nL D g As d) {x y : Int32} {off : Int} {tgt : Nat} (hdg : decode cc pc = .ok (.if_icmp .gt off, 3)) (ht : (pc : Int) + off = (tgt : Int)) (kt : y < x → gJ p l e R s m args below meth c Q nL D g As N ad ln A loc k n tgt st) (kf : ¬ y < x → gJ p l e R s m args below meth c Q nL D g As N ad ln A loc k n (pc + 3) st) : gJ p l e R s m args below meth c Q nL D g As N ad ln A loc k n pc (gi y :: gi x :: st) := fun H locs ls hP hD hS hl => lv_icmp_gt C.1 C.2.1 hdg ht (fun q => kt q H locs ls hP hD hS hl) (fun q => kf q H locs ls hP hD hS hl)
theorem g_icmp_le (C : gC p R s m args meth c cc own nL D g As d) {x y : Int32} {off : Int} {tgt : Nat} (hdg : decode cc pc = .ok (.if_icmp .le off, 3)) (ht : (pc : Int) + off = (tgt : Int)) (kt : x ≤ y → gJ p l e R s m args below meth c Q nL D g As N ad ln A loc k n tgt st) (kf : ¬ x ≤ y → gJ p l e R s m args below meth c Q nL D g As N ad ln A loc k n (pc + 3) st) : gJ p l e R s m args below meth c Q nL D g As N ad ln A loc k n pc (gi y :: gi x :: st) := fun H locs ls hP hD hS hl => lv_icmp_le C.1 C.2.1 hdg ht (fun q => kt q H locs ls hP hD hS hl) (fun q => kf q H locs ls hP hD hS hl)
theorem g_goto (C : gC p R s m args meth c cc own nL D g As d) {off : Int} {tgt : Nat} (hdg : decode cc pc = .ok (.goto off, 3)) (ht : (pc : Int) + off = (tgt : Int)) (kk : gJ p l e R s m args below meth c Q nL D g As N ad ln A loc k n tgt st) : gJ p l e R s m args below meth c Q nL D g As N ad ln A loc k n pc st := fun H locs ls hP hD hS hl => lv_goto C.1 C.2.1 hdg ht (kk H locs ls hP hD hS hl)
def g_cat : gV → Nat
  | .inl _ => 1
  | .inr v => v.category
theorem g_cat_v {ad : Nat → Nat} {v : gV} : (g_v ad v).category = g_cat v := by cases v <;> rfl
/-- the locals behind a store of one word, of two -/
def g_st (i : Nat) (v : gV) (loc : List (Nat × gV)) : List (Nat × gV) := (i, v) :: loc.filter (fun q => !(q.1 == i) && !(q.1 + 1 == i && g_cat q.2 == 2))
def g_st2 (i : Nat) (v : gV) (loc : List (Nat × gV)) : List (Nat × gV) := (i, v) :: loc.filter (fun q => !(q.1 == i) && (!(q.1 == i + 1) && !(q.1 + 1 == i && g_cat q.2 == 2)))
theorem g_st_map {ad : Nat → Nat} {i : Nat} {v : gV} {loc : List (Nat × gV)} : (i, g_v ad v) :: (loc.map (g_q ad)).filter (fun q => !(q.1 == i) && !(q.1 + 1 == i && q.2.category == 2)) = (g_st i v loc).map (g_q ad) := by
  show _ = (i, g_v ad v) :: _
  rw [List.filter_map]
  congr 2
  apply List.filter_congr
  intro q _
  simp [g_q, g_cat_v]
theorem g_st2_map {ad : Nat → Nat} {i : Nat} {v : gV} {loc : List (Nat × gV)} : (i, g_v ad v) :: (loc.map (g_q ad)).filter (fun q => !(q.1 == i) && (!(q.1 == i + 1) && !(q.1 + 1 == i && q.2.category == 2))) = (g_st2 i v loc).map (g_q ad) := by
  show _ = (i, g_v ad v) :: _
  rw [List.filter_map]
  congr 2
  apply List.filter_congr
  intro q _
  simp [g_q, g_cat_v]
theorem g_istore_n (C : gC p R s m args meth c cc own nL D g As d) {x : Int32} {z : Fin 4} (hdg : decode cc pc = .ok (.istore_n z, 1)) (hn : (z : Nat) < nL) (h : g_st z (gi x) loc = loc') (kk : gJ p l e R s m args below meth c Q nL D g As N ad ln A loc' k n (pc + 1) st) : gJ p l e R s m args below meth c Q nL D g As N ad ln A loc k n pc (gi x :: st) := fun H locs ls hP hD hS hl => lv_istore_n C.1 C.2.1 hdg rfl hl hn (g_st_map.trans (by rw [h])) (fun ls' hl' => kk H locs ls' hP hD hS hl')
theorem g_istore (C : gC p R s m args meth c cc own nL D g As d) {x : Int32} {i : Nat} (hdg : decode cc pc = .ok (.istore i, 2)) (hn : i < nL) (h : g_st i (gi x) loc = loc') (kk : gJ p l e R s m args below meth c Q nL D g As N ad ln A loc' k n (pc + 2) st) : gJ p l e R s m args below meth c Q nL D g As N ad ln A loc k n pc (gi x :: st) := fun H locs ls hP hD hS hl => lv_istore C.1 C.2.1 hdg hl hn (g_st_map.trans (by rw [h])) (fun ls' hl' => kk H locs ls' hP hD hS hl')
theorem g_lstore_n (C : gC p R s m args meth c cc own nL D g As d) {x : Int64} {z : Fin 4} (hdg : decode cc pc = .ok (.lstore_n z, 1)) (hn : (z : Nat) + 1 < nL) (h : g_st2 z (gl x) loc = loc') (kk : gJ p l e R s m args below meth c Q nL D g As N ad ln A loc' k n (pc + 1) st) : gJ p l e R s m args below meth c Q nL D g As N ad ln A loc k n pc (gl x :: st) := fun H locs ls hP hD hS hl => lv_lstore_n C.1 C.2.1 hdg rfl hl hn (g_st2_map.trans (by rw [h])) (fun ls' hl' => kk H locs ls' hP hD hS hl')
theorem g_lstore (C : gC p R s m args meth c cc own nL D g As d) {x : Int64} {i : Nat} (hdg : decode cc pc = .ok (.lstore i, 2)) (hn : i + 1 < nL) (h : g_st2 i (gl x) loc = loc') (kk : gJ p l e R s m args below meth c Q nL D g As N ad ln A loc' k n (pc + 2) st) : gJ p l e R s m args below meth c Q nL D g As N ad ln A loc k n pc (gl x :: st) := fun H locs ls hP hD hS hl => lv_lstore C.1 C.2.1 hdg hl hn (g_st2_map.trans (by rw [h])) (fun ls' hl' => kk H locs ls' hP hD hS hl')
theorem g_astore_n (C : gC p R s m args meth c cc own nL D g As d) {x : Nat} {z : Fin 4} (hdg : decode cc pc = .ok (.astore_n z, 1)) (hn : (z : Nat) < nL) (h : g_st z (gr x) loc = loc') (kk : gJ p l e R s m args below meth c Q nL D g As N ad ln A loc' k n (pc + 1) st) : gJ p l e R s m args below meth c Q nL D g As N ad ln A loc k n pc (gr x :: st) := fun H locs ls hP hD hS hl => lv_astore_n C.1 C.2.1 hdg rfl hl hn (g_st_map.trans (by rw [h])) (fun ls' hl' => kk H locs ls' hP hD hS hl')
theorem g_astore (C : gC p R s m args meth c cc own nL D g As d) {x : Nat} {i : Nat} (hdg : decode cc pc = .ok (.astore i, 2)) (hn : i < nL) (h : g_st i (gr x) loc = loc') (kk : gJ p l e R s m args below meth c Q nL D g As N ad ln A loc' k n (pc + 2) st) : gJ p l e R s m args below meth c Q nL D g As N ad ln A loc k n pc (gr x :: st) := fun H locs ls hP hD hS hl => lv_astore C.1 C.2.1 hdg hl hn (g_st_map.trans (by rw [h])) (fun ls' hl' => kk H locs ls' hP hD hS hl')
theorem g_dstore_n (C : gC p R s m args meth c cc own nL D g As d) {x : UInt64} {z : Fin 4} (hdg : decode cc pc = .ok (.dstore_n z, 1)) (hn : (z : Nat) + 1 < nL) (h : g_st2 z (gd x) loc = loc') (kk : gJ p l e R s m args below meth c Q nL D g As N ad ln A loc' k n (pc + 1) st) : gJ p l e R s m args below meth c Q nL D g As N ad ln A loc k n pc (gd x :: st) := fun H locs ls hP hD hS hl => lv_dstore_n C.1 C.2.1 hdg rfl hl hn (g_st2_map.trans (by rw [h])) (fun ls' hl' => kk H locs ls' hP hD hS hl')
theorem g_dstore (C : gC p R s m args meth c cc own nL D g As d) {x : UInt64} {i : Nat} (hdg : decode cc pc = .ok (.dstore i, 2)) (hn : i + 1 < nL) (h : g_st2 i (gd x) loc = loc') (kk : gJ p l e R s m args below meth c Q nL D g As N ad ln A loc' k n (pc + 2) st) : gJ p l e R s m args below meth c Q nL D g As N ad ln A loc k n pc (gd x :: st) := fun H locs ls hP hD hS hl => lv_dstore C.1 C.2.1 hdg hl hn (g_st2_map.trans (by rw [h])) (fun ls' hl' => kk H locs ls' hP hD hS hl')
theorem g_iinc (C : gC p R s m args meth c cc own nL D g As d) (q : Nat) {x v : Int32} {i : Nat} {z : Int} (hdg : decode cc pc = .ok (.iinc i z, 3)) (hq : loc[q]? = some (i, gi x)) (hv : x + Int32.ofInt z = v) (hn : i < nL) (h : g_st i (gi v) loc = loc') (kk : gJ p l e R s m args below meth c Q nL D g As N ad ln A loc' k n (pc + 3) st) : gJ p l e R s m args below meth c Q nL D g As N ad ln A loc k n pc st := fun H locs ls hP hD hS hl => lv_iinc (k := q) C.1 C.2.1 hdg hl (by rw [List.getElem?_map, hq]; rfl) hv hn (g_st_map.trans (by rw [h])) (fun ls' hl' => kk H locs ls' hP hD hS hl')
def g_in (x : Int32) (n : Nat) : Bool := decide (¬ (x < 0 ∨ n ≤ x.toNatClampNeg))
theorem g_in_vp {x : Int32} {n : Nat} (h : g_in x n = true) : vp_in x n := (of_decide_eq_true h : ¬ (x < 0 ∨ n ≤ x.toNatClampNeg))
theorem g_in_lt {x : Int32} {n : Nat} (h : g_in x n = true) : x.toNatClampNeg < n := Nat.not_le.mp fun q => g_in_vp h (Or.inr q)
theorem g_iald (C : gC p R s m args meth c cc own nL D g As d) (i : Nat) {nn : Nat} {x : Int32} (hi : i < N) (hI : g_isI i = true) (hn : g_ln ln i = nn) (hin : g_in x nn = true) (hdg : decode cc pc = .ok (.iaload, 1)) (kk : gJ p l e R s m args below meth c Q nL D g As N ad ln A loc k n (pc + 1) (gi (A i x.toNatClampNeg) :: st)) : gJ p l e R s m args below meth c Q nL D g As N ad ln A loc k n pc (gi x :: gr i :: st) := fun H locs ls hP hD hS hl => va_iald C.1 C.2.1 C.2.2.2.2.2.1 hP i 0 (f := A i) (n := nn) (cA := g.1) (by rw [gw_at hi, g_ce_I hI, hn]) rfl (g_in_vp hin) hdg (kk H locs ls hP hD hS hl)
theorem g_iast (C : gC p R s m args meth c cc own nL D g As d) (i : Nat) {nn : Nat} {x v : Int32} {A' : gM} (hi : i < N) (hI : g_isI i = true) (hn : g_ln ln i = nn) (hin : g_in x nn = true) (hA : g_up A i x.toNatClampNeg v = A') (hdg : decode cc pc = .ok (.iastore, 1)) (kk : gJ p l e R s m args below meth c Q nL D g As N ad ln A' loc k n (pc + 1) st) : gJ p l e R s m args below meth c Q nL D g As N ad ln A loc k n pc (gi v :: gi x :: gr i :: st) := fun H locs ls hP hD hS hl => va_iast C.1 C.2.1 C.2.2.2.2.2.1 hP hD hS i 0 (f := A i) (n := nn) (cA := g.1) (by rw [gw_at hi, g_ce_I hI, hn]) rfl (g_in_vp hin) hdg (fun H1 locs1 hP1 hD1 hS1 => by
  have e : (gw g ad ln A N).set i (ad i, .inl (g.1, nn, .inl (upd (A i) x.toNatClampNeg v))) = gw g ad ln A' N := by
    rw [← hA, g_up, ← gw_set hi, g_ce_I hI, hn]
  rw [e] at hP1 hD1
  exact kk H1 locs1 ls hP1 hD1 hS1 hl)
theorem g_aald (C : gC p R s m args meth c cc own nL D g As d) (i b : Nat) {x : Int32} (hi : i < N) (hc : g_ce g ad (g_ln ln i) (A i) i = .inl (g.2, g_out ad b)) (hin : g_in x 40 = true) (hdg : decode cc pc = .ok (.aaload, 1)) (kk : gJ p l e R s m args below meth c Q nL D g As N ad ln A loc k n (pc + 1) (gr (b + x.toNatClampNeg) :: st)) : gJ p l e R s m args below meth c Q nL D g As N ad ln A loc k n pc (gi x :: gr i :: st) := fun H locs ls hP hD hS hl => by
  have hlt := g_in_lt hin
  have hin := g_in_vp hin
  have ha : H[ad i]? = some (arrV g.2 40 (fun j => va_rf (if j < 40 then some (ad (b + j)) else none))) := by
    have h1 := hP i _ (gw_at hi)
    rw [hc] at h1
    exact h1
  have hv : va_rf (if x.toNatClampNeg < 40 then some (ad (b + x.toNatClampNeg)) else none) = .ref (ad (b + x.toNatClampNeg)) := by rw [if_pos hlt]; rfl
  exact W.aald (v := .ref (ad (b + x.toNatClampNeg))) (ty := .array .int) C.1 C.2.1 ha ((C.2.2.2.2.2.1.2 1 _ rfl).1 40 (fun j => va_rf (if j < 40 then some (ad (b + j)) else none))) rfl (fun q => by cases q) (by show ¬ (x < 0 ∨ (arrV _ _ _).slots.size ≤ _); rw [arrV_size]; exact hin) (by show (arrV _ _ _).slots[_]? = _; rw [arrV_read _ _ hlt, hv]) rfl rfl hdg (kk H locs ls hP hD hS hl)
theorem g_alen (C : gC p R s m args meth c cc own nL D g As d) (i : Nat) {v : Int32} (hi : i < N) (hI : g_isI i = true) (hv : Int32.ofNat (g_ln ln i) = v) (hdg : decode cc pc = .ok (.arraylength, 1)) (kk : gJ p l e R s m args below meth c Q nL D g As N ad ln A loc k n (pc + 1) (gi v :: st)) : gJ p l e R s m args below meth c Q nL D g As N ad ln A loc k n pc (gr i :: st) := fun H locs ls hP hD hS hl => va_alen C.1 C.2.1 C.2.2.2.2.2.1 hP i 0 (x := (g_ln ln i, .inl (A i))) (cA := g.1) (by rw [gw_at hi, g_ce_I hI]) rfl hv hdg (kk H locs ls hP hD hS hl)
theorem g_get (C : gC p R s m args meth c cc own nL D g As d) (i q : Nat) {ci ix Nn : Nat} {fs : List Value} {Cn : String} {T : u_T} {v : gV} (hi : i < N) (he : g_ce g ad (g_ln ln i) (A i) i = .inr (ci, fs)) (hc : vwCl[ci]? = some (Cn, T, Nn)) (hu : ∀ w ∈ u_ws Cn T Nn, w ∈ gtb) (hq : q < Nn) (hw : Cond.fieldLink own ix (T q).1 (T q).2.1 (T q).2.2.1 ∈ gtb) (hv : fs[q]? = some (g_v ad v)) (hdg : decode cc pc = .ok (.getfield ix, 3)) (kk : gJ p l e R s m args below meth c Q nL D g As N ad ln A loc k n (pc + 3) (v :: st)) : gJ p l e R s m args below meth c Q nL D g As N ad ln A loc k n pc (gr i :: st) := fun H locs ls hP hD hS hl => va_get C.1 C.2.1 C.2.2.2.2.1 hu C.2.2.2.1 C.2.2.2.2.2.1 hP i (fs := fs) (by rw [gw_at hi, he]) hc q hq (C.2.2.2.2.1 _ hw) (fun _ h9 => h9) hv hdg (kk H locs ls hP hD hS hl)
theorem g_put (C : gC p R s m args meth c cc own nL D g As d) (i q : Nat) {ci ix Nn : Nat} {fs : List Value} {Cn : String} {T : u_T} {v : Int32} {A' : gM} (ty0 : Nat → FieldType) (hty : ∀ k, k < Nn → parseFieldDescriptor (T k).2.2.1 = some (ty0 k)) (hnm : ∀ a, a < Nn → ∀ b, b < Nn → a ≠ b → (T a).2.1 ≠ (T b).2.1) (hi : i < N) (he : g_ce g ad (g_ln ln i) (A i) i = .inr (ci, fs)) (hc : vwCl[ci]? = some (Cn, T, Nn)) (hu : ∀ w ∈ u_ws Cn T Nn, w ∈ gtb) (hq : q < Nn) (hw : Cond.fieldLink own ix (T q).1 (T q).2.1 (T q).2.2.1 ∈ gtb) (hfin : (T q).2.2.2 = false) (hd : parseFieldDescriptor (T q).2.2.1 = some .int) (hlen : q < fs.length) (he2 : g_ce g ad (g_ln ln i) (upd (A i) q v) i = .inr (ci, fs.set q (.int v))) (hA : g_up A i q v = A') (hdg : decode cc pc = .ok (.putfield ix, 3)) (kk : gJ p l e R s m args below meth c Q nL D g As N ad ln A' loc k n (pc + 3) st) : gJ p l e R s m args below meth c Q nL D g As N ad ln A loc k n pc (gi v :: gr i :: st) := fun H locs ls hP hD hS hl => va_put C.1 C.2.1 C.2.2.2.2.1 hu ty0 hty hnm C.2.2.2.1 C.2.2.2.2.2.1 hP hD hS i (fs := fs) (v := .int v) (by rw [gw_at hi, he]) hc q hq (C.2.2.2.2.1 _ hw) (fun _ h9 => h9) hfin hd rfl rfl hlen hdg (fun H1 locs1 hP1 hD1 hS1 => by
  rw [← he2, gw_set hi, ← g_up, hA] at hP1 hD1
  exact kk H1 locs1 ls hP1 hD1 hS1 hl)
end GJ
