/-! METHODS THAT CATCH (the law's own): contracts with a table -/
/-- no exception of the three is another one of them -/
def gNC (U : State) : Prop := ∀ i j : Nat, i < 3 → j < 3 → i ≠ j → va_Nc (g_xn i) (g_xn j) U
theorem gNC.moved {u U : State} (hvm : u.vm.Alike U.vm) (h : gNC u) : gNC U := fun i j hi hj hne => va_Nc.moved hvm (h i j hi hj hne)
def g_preL (D : va_G) (g : gT) (N : Nat) (ad ln : Nat → Nat) (A : gM) (sz : Nat) (av : List gV) : Array Value → State → Prop :=
  va_Pc (av.map (g_v ad)) (fun U => U.heap.size = sz ∧ va_P D vwCl (gw g ad ln A N) U.heap ∧ va_K D vwCl (g_tys g) U ∧ va_D (fun _ => True) (gw g ad ln A N) ∧ gX U ∧ gZ (va_A (gw g ad ln A N) sz) U U.heap ∧ gNC U)
theorem g_blindL {D : va_G} {g : gT} {N : Nat} {ad ln : Nat → Nat} {A : gM} {sz : Nat} {av : List gV} : FrameBlind (g_preL D g N ad ln A sz av) := fun a U q mk h => by
  obtain ⟨q0, q1, qP, qK, qD, qX, ⟨qZ1, qZ2⟩, qN⟩ := h
  exact ⟨q0, q1, qP, va_K.moved (u := U) (U := U.calling q mk a) (Vm.Alike.refl U.vm) qK, qD, qX.same rfl, ⟨vx_Zq.moved (u := U) (U := U.calling q mk a) (Vm.Alike.refl U.vm) qZ1, vx_Zq.moved (u := U) (U := U.calling q mk a) (Vm.Alike.refl U.vm) qZ2⟩, gNC.moved (u := U) (U := U.calling q mk a) (Vm.Alike.refl U.vm) qN⟩
abbrev g_nox (D : va_G) (g : gT) (N : Nat) (ad ln : Nat → Nat) (A : gM) (sz : Nat) : String → State → State → Prop := vx_X (S := Unit) (fun _ => False) (fun _ _ _ => True) (va_A (gw g ad ln A N) sz)
abbrev gH : Type := List (Nat × Nat × Nat × Nat)
def gLi (l : Launch) (y : MethodName) (b : ByteArray) (nl : Nat) (hh : gH) (d cc : Nat) (D : va_G) (g : gT) (N : Nat) (ad ln : Nat → Nat) (A : gM) (av : List gV) (A' : gM) (r : Int32) : Prop :=
  ∀ sz, vx_Met l y (Cond.codeWith y b nl (some .int) hh :: gtb) (g_rmx d cc (6 * cc)) (g_preL D g N ad ln A sz av) (g_Qi D g N ad ln A sz A' r) (g_nox D g N ad ln A sz) cc (6 * cc) (va_A (gw g ad ln A N) sz)
/-- where exception j thrown at pc is caught -/
def g_hand (own : String) (hh : gH) (pc j hpc : Nat) : Prop := j < 3 ∧ ∃ pre x suf, tableOf hh = pre ++ x :: suf ∧ (∀ z ∈ pre, z.catchType ≠ 0 ∧ ∃ i, i < 3 ∧ i ≠ j ∧ Cond.classLink own z.catchType (g_xn i) ∈ gtb) ∧ covers x pc = true ∧ x.catchType ≠ 0 ∧ Cond.classLink own x.catchType (g_xn j) ∈ gtb ∧ x.handlerPc = hpc
/-- the result of a call whose throw is caught -/
def g_ct {β : Type} (q : gM × (Int32 ⊕ Nat)) (fx : Nat → Option β) (f : Int32 → Option β) : Option β := match q.2 with
  | .inl r => f r
  | .inr k => fx k
theorem g_ctx {β : Type} {q : gM × (Int32 ⊕ Nat)} {fx : Nat → Option β} {f : Int32 → Option β} {x : β} {k : Nat} (h : g_ct q fx f = some x) (hk : q.2 = .inr k) : fx k = some x := by
  unfold g_ct at h; rw [hk] at h; exact h
theorem g_ctr {β : Type} {q : gM × (Int32 ⊕ Nat)} {fx : Nat → Option β} {f : Int32 → Option β} {x : β} {r : Int32} (h : g_ct q fx f = some x) (hk : q.2 = .inl r) : f r = some x := by
  unfold g_ct at h; rw [hk] at h; exact h
section GL
variable {p : Program} {l : Launch} {e : Env} {R : Room} {s : State} {m : MethodId} {args : Array Value} {below : List Frame} {meth : Method} {c : Code} {Q : State → Prop} {nL : Nat} {D : va_G} {g : gT} {As : Nat → Prop} {N : Nat} {ad ln : Nat → Nat} {A A' A1 A0 : gM} {loc loc' : List (Nat × gV)} {k n pc : Nat} {st : List gV} {cc : ByteArray} {own : String} {d mc : Nat} {hh : gH}
def gCL (l : Launch) (s : State) (c : Code) (As : Nat → Prop) (hh : gH) : Prop := l.stackTraces = false ∧ gX s ∧ gZ As s s.heap ∧ gNC s ∧ c.exceptionTable.toList = tableOf hh
def gEL (below : List Frame) (D : va_G) (g : gT) (N : Nat) (ad ln : Nat → Nat) (A A' : gM) (r : Int32) (mc : Nat) (args : Array Value) (s : State) : State → Prop := vx_MQ below (g_Qi D g N ad ln A s.heap.size A' r) (g_nox D g N ad ln A s.heap.size) args s mc (6 * mc) (va_A (gw g ad ln A N) s.heap.size)

theorem g_metL {y : MethodName} {b : ByteArray} {nl : Nat} {av : List gV} {r : Int32} (hl : l.stackTraces = false) (hpl : plainName y.cls = true) (hlen : (av.map g_cat).foldr (fun c n => (if c = 2 then 2 else 1) + n) 0 ≤ nl)
    (body : ∀ (p : Program) (e : Env) (s : State) (m : MethodId) (args : Array Value) (below : List Frame) (meth : Method) (c : Code), gC p (g_rmx d mc (6 * mc)) s m args meth c b y.cls nl D g (va_A (gw g ad ln A N) s.heap.size) d → gCL l s c (va_A (gw g ad ln A N) s.heap.size) hh → meth.sig.returnType = some .int → gJ p l e (g_rmx d mc (6 * mc)) s m args below meth c (gEL below D g N ad ln A A' r mc args s) nl D g (va_A (gw g ad ln A N) s.heap.size) N ad ln A (g_args 0 av) 0 0 0 []) : gLi l y b nl hh d mc D g N ad ln A av A' r := by
  intro sz
  refine vx_ofWH (cc := b) (maxL := nl) (ret := some .int) (hh := hh) hpl rfl ?_
  intro p e s m args below meth c s₁ B hml hv
  obtain ⟨rfl, hsz, hP, hK, hD0, hX, hZ, hNC⟩ := hv
  subst hsz
  have hts := atoms_spec (ws := Cond.codeWith y b nl (some .int) hh :: gtb) B.pre
  have hown : s.vm.findClass y.cls = some m.cls := findClass_of_methodNamed B.named
  have htab := vx_table (x := y) B (hts _ List.mem_cons_self)
  have hl2 := lv_entry (av.map (g_v ad)) (n := nl) (by rw [g_sl_len]; exact hlen)
  rw [lg_entry_eq]
  rw [g_args_map] at hl2
  exact body p e s m _ below meth c ⟨B.exec, B.bytes, hml, hown, fun w hw => hts w (List.mem_cons_of_mem _ hw), hK, fun q h => Or.inr h, B.notSynchronized, Nat.le_refl _, Nat.le_refl _⟩ ⟨hl, hX, hZ, hNC, htab⟩ B.returns s.heap [] _ hP hD0.self va_S.rf hl2
theorem g_retL (C : gC p R s m args meth c cc own nL D g (va_A (gw g ad ln A N) s.heap.size) d) {r : Int32} (hk : k ≤ mc) (hn : n ≤ 6 * mc) (hr : meth.sig.returnType = some .int) (hdg : decode cc pc = .ok (.ireturn, 1)) : gJ p l e R s m args below meth c (gEL below D g N ad ln A A' r mc args s) nL D g (va_A (gw g ad ln A N) s.heap.size) N ad ln A' loc k n pc [gi r] := fun H locs ls hP hD hS hl => W.widen (k := mc) (n := 6 * mc) hk hn (vx_ret (W.iret (v := r) C.1 C.2.1 hr (fun t ht hW => ⟨⟨r, (), rfl, rfl, by rw [ht]; exact hP, va_K.moved hW.alike C.2.2.2.2.2.1, hD⟩, hS.F ht⟩) hS.2.2 hdg C.2.2.2.2.2.2.2.1))
theorem g_astoreX_n (C : gC p R s m args meth c cc own nL D g As d) {x : Nat} {z : Fin 4} (hdg : decode cc pc = .ok (.astore_n z, 1)) (hn : (z : Nat) < nL) (h : g_st z (.inr (.ref x)) loc = loc') (kk : gJ p l e R s m args below meth c Q nL D g As N ad ln A loc' k n (pc + 1) st) : gJ p l e R s m args below meth c Q nL D g As N ad ln A loc k n pc (.inr (.ref x) :: st) := fun H locs ls hP hD hS hl => lv_astore_n C.1 C.2.1 hdg rfl hl hn ((g_st_map (v := .inr (.ref x))).trans (by rw [h])) (fun ls' hl' => kk H locs ls' hP hD hS hl')
theorem g_astoreX (C : gC p R s m args meth c cc own nL D g As d) {x i : Nat} (hdg : decode cc pc = .ok (.astore i, 2)) (hn : i < nL) (h : g_st i (.inr (.ref x)) loc = loc') (kk : gJ p l e R s m args below meth c Q nL D g As N ad ln A loc' k n (pc + 2) st) : gJ p l e R s m args below meth c Q nL D g As N ad ln A loc k n pc (.inr (.ref x) :: st) := fun H locs ls hP hD hS hl => lv_astore C.1 C.2.1 hdg hl hn ((g_st_map (v := .inr (.ref x))).trans (by rw [h])) (fun ls' hl' => kk H locs ls' hP hD hS hl')
/-- a call of a method that may throw, under a table -/
theorem g_callC (C : gC p R s m args meth c cc own nL D g As d) (CX : gCL l s c As hh) (i : Nat) (as : List gV) {st0 : List gV} {Cn : String} {ci ix np mL d' c1 : Nat} {z : MethodName} {b : ByteArray} {rt : Option FieldType} {fs : List Value} {T : u_T} {Nn : Nat} {res1 : Int32 ⊕ Nat} (hM : gXi l z b mL rt d' c1 D g N ad ln A (gr i :: as) A1 res1) (hs : g_site own Cn ix z b mL rt np) (hd : d' + 1 ≤ d) (hi : i < N) (he : g_ce g ad (g_ln ln i) (A i) i = .inr (ci, fs)) (hc : vwCl[ci]? = some (Cn, T, Nn)) (hn : as.length = np) (hst : st0 = as.reverse ++ gr i :: st) (hcat : (st.map g_cat).sum ≤ 8) (hk1 : k + c1 ≤ R.cells ∧ n + 6 * c1 ≤ R.slots) (hdg : decode cc pc = .ok (.invokevirtual ix, 3)) (kx : ∀ j, res1 = .inr j → ∃ hpc, g_hand own hh pc j hpc ∧ ∀ q9 : Nat, gJ p l e R s m args below meth c Q nL D g As N ad ln A1 loc (k + c1) (n + 6 * c1) hpc [.inr (.ref q9)]) (kk : ∀ r : Int32, res1 = .inl r → gJ p l e R s m args below meth c Q nL D g As N ad ln A1 loc (k + c1) (n + 6 * c1) (pc + 3) (gi r :: st)) : gJ p l e R s m args below meth c Q nL D g As N ad ln A loc k n pc st0 := by
  intro H locs ls hP hD hS hl
  have hF := g_frees hD hS C.2.2.2.2.2.2.1
  refine vx_calli (vx_runV (C := Cn) (b := ad i) (As := as.map (g_v ad)) (rest := st.map (g_v ad)) ⟨C.1, C.2.1, C.2.2.1, C.2.2.2.1, C.2.2.2.2.1⟩ (hM H.size) (cwV np C.2.2.2.2.1 (g_goodV hs) rfl rfl rfl hs.2.2.2.2.2.1 (g_room C.2.2.2.2.2.2.2.2 hd hs.2.2.2.2.2.2)) ⟨g_blindX, va_recv C.2.2.2.2.2.1 hP (q0 := i) hc (by rw [gw_at hi, he]), fun U hU hW => ⟨rfl, by rw [hU], by rw [hU]; exact hP, va_K.moved hW.alike C.2.2.2.2.2.1, hD.weaken (fun _ _ _ _ => trivial), CX.2.1.warm hW, by rw [hU]; exact g_zNow CX.2.2.1 C.2.2.2.2.2.2.1 hD hS hW.alike⟩⟩ rfl (by rw [List.length_map]; exact hn) hl.1 (by show st0.map (g_v ad) = _; rw [hst]; simp [g_v]) (g_lv hcat) hdg ⟨hk1.1, hk1.2⟩) hS (fun q _ h => hF q h) hF (fun q _ h => hF q h) (fun E ce q9 u t H1 locs1 ht hvm hw hB hz1 hk1 hS hce hcv hcl => ?_) (fun r u t H1 locs1 ht hvm hw hB hz1 hk1 hS => ?_)
  · obtain ⟨j, hj, rfl, hP1, hK1, hD1⟩ := hB
    rw [ht] at hP1
    obtain ⟨hpc, ⟨hj3, pre, x, suf, hsp, hpre, hcov, hx0, hxl, rfl⟩, kj⟩ := kx j hj
    have hcast : (Cond.castable (g_xn j) (g_xn j)).before args s = true := by
      have hm : Cond.castable (g_xn j) (g_xn j) ∈ gxw := by
        match j, hj3 with
        | 0, _ => decide +kernel
        | 1, _ => decide +kernel
        | 2, _ => decide +kernel
      exact va_Nw.use (gX_tab _ hm) (CX.2.1 _ hm)
    refine vx_catch C.2.2.2.1 pre x suf (CX.2.2.2.2.trans hsp) (fun z hz => ?_) hcov hx0 (C.2.2.2.2.1 _ hxl) hcast hce hcv hcl ?_
    · obtain ⟨h0, i2, hi3, hne, hlk⟩ := hpre z hz
      exact Or.inr ⟨h0, g_xn i2, C.2.2.2.2.1 _ hlk, CX.2.2.2.1 j i2 hj3 hi3 (fun q => hne q.symm)⟩
    · exact kj q9 H1 locs1 ls hP1 (hD1.weaken (fun _ _ _ h => hF _ h)) hS hl
  · obtain ⟨hP1, hK1, hD1⟩ := hB
    rw [ht] at hP1
    exact kk r hw H1 locs1 ls hP1 (hD1.weaken (fun _ _ _ h => hF _ h)) hS hl
end GL
