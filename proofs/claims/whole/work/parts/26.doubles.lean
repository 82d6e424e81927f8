/-! doubles: the answer of mean -/
def g_Qd (D : va_G) (g : gT) (N : Nat) (ad ln : Nat → Nat) (A : gM) (sz : Nat) (A' : gM) (r : UInt64) : Array Value → State → Outcome → State → Prop :=
  va_Qd (S := Unit) (fun x _ => x = r) (fun _ t => g_B D g N ad ln A A' sz t) (va_A (gw g ad ln A N) sz)
def gKd (l : Launch) (y : MethodName) (b : ByteArray) (nl : Nat) (rt : Option FieldType) (d : Nat) (D : va_G) (g : gT) (N : Nat) (ad ln : Nat → Nat) (A : gM) (av : List gV) (A' : gM) (r : UInt64) : Prop :=
  ∀ sz, Met l y (g_ws y b nl rt) (g_rm d) (g_pre D g N ad ln A sz av) (g_Qd D g N ad ln A sz A' r) 0 0 (va_A (gw g ad ln A N) sz)
def g_QAd (D : va_G) (g : gT) (N : Nat) (ad ln : Nat → Nat) (A : gM) (sz : Nat) (A' : gM) (cp' : Nat) (r : UInt64) : Array Value → State → Outcome → State → Prop :=
  va_Qd (S := gU) (fun x _ => x = r) (fun u t => g_BA D g N ad ln A sz N A' cp' u t) (va_A (gw g ad ln A N) sz)
def gAd (l : Launch) (y : MethodName) (b : ByteArray) (nl : Nat) (rt : Option FieldType) (d : Nat) (D : va_G) (g : gT) (N : Nat) (ad ln : Nat → Nat) (A : gM) (av : List gV) (A' : gM) (u : Nat × Nat × Nat) (r : UInt64) : Prop :=
  ∀ sz, Met l y (g_ws y b nl rt) (g_rmx d u.2.1 u.2.2) (g_pre D g N ad ln A sz av) (g_QAd D g N ad ln A sz A' u.1 r) u.2.1 u.2.2 (va_A (gw g ad ln A N) sz)
section GD
variable {p : Program} {l : Launch} {e : Env} {R : Room} {s : State} {m : MethodId} {args : Array Value} {below : List Frame} {meth : Method} {c : Code} {Q : State → Prop} {nL : Nat} {D : va_G} {g : gT} {As : Nat → Prop} {N N0 : Nat} {ad ln ad0 ln0 : Nat → Nat} {A A' A1 A0 : gM} {loc loc' : List (Nat × gV)} {k n pc cp' : Nat} {st : List gV} {cc : ByteArray} {own : String} {d mc : Nat}
def gEd (below : List Frame) (D : va_G) (g : gT) (N : Nat) (ad ln : Nat → Nat) (A A' : gM) (r : UInt64) (args : Array Value) (s : State) : State → Prop := MQ below (g_Qd D g N ad ln A s.heap.size A' r) args s 0 0 (va_A (gw g ad ln A N) s.heap.size)
theorem g_metd {y : MethodName} {b : ByteArray} {nl : Nat} {rt : Option FieldType} {av : List gV} {r : UInt64} (hpl : plainName y.cls = true) (hlen : (av.map g_cat).foldr (fun c n => (if c = 2 then 2 else 1) + n) 0 ≤ nl)
    (body : ∀ (p : Program) (e : Env) (s : State) (m : MethodId) (args : Array Value) (below : List Frame) (meth : Method) (c : Code), gC p (g_rm d) s m args meth c b y.cls nl D g (va_A (gw g ad ln A N) s.heap.size) d → meth.sig.returnType = rt → gJ p l e (g_rm d) s m args below meth c (gEd below D g N ad ln A A' r args s) nl D g (va_A (gw g ad ln A N) s.heap.size) N ad ln A (g_args 0 av) 0 0 0 []) : gKd l y b nl rt d D g N ad ln A av A' r := by
  intro sz
  refine Met.ofW (cc := b) (maxL := nl) (ret := rt) hpl rfl ?_
  intro p e s m args below meth c s₁ B hml hv
  obtain ⟨rfl, hsz, hP, hK, hD0⟩ := hv
  subst hsz
  have hts := atoms_spec (ws := g_ws y b nl rt) B.pre
  have hown : s.vm.findClass y.cls = some m.cls := findClass_of_methodNamed B.named
  have hl := lv_entry (av.map (g_v ad)) (n := nl) (by rw [g_sl_len]; exact hlen)
  rw [lg_entry_eq]
  rw [g_args_map] at hl
  exact body p e s m _ below meth c ⟨B.exec, B.bytes, hml, hown, fun w hw => hts w (List.mem_cons_of_mem _ hw), hK, fun q h => Or.inr h, B.notSynchronized, Nat.le_refl _, Nat.le_refl _⟩ B.returns s.heap [] _ hP hD0.self va_S.rf hl
theorem g_retd (C : gC p R s m args meth c cc own nL D g (va_A (gw g ad ln A N) s.heap.size) d) {r : UInt64} (hr : meth.sig.returnType = some .double) (hdg : decode cc pc = .ok (.dreturn, 1)) : gJ p l e R s m args below meth c (gEd below D g N ad ln A A' r args s) nL D g (va_A (gw g ad ln A N) s.heap.size) N ad ln A' loc 0 0 pc [gd r] := fun H locs ls hP hD hS hl => W.dret (v := r) C.1 C.2.1 hr (fun t ht hW => ⟨⟨r, (), rfl, rfl, by rw [ht]; exact hP, va_K.moved hW.alike C.2.2.2.2.2.1, hD⟩, hS.F ht⟩) hS.2.2 hdg C.2.2.2.2.2.2.2.1
theorem g_calldV (C : gC p R s m args meth c cc own nL D g As d) (i : Nat) (as : List gV) {st0 : List gV} {Cn : String} {ci ix np mL d' : Nat} {z : MethodName} {b : ByteArray} {rt : Option FieldType} {fs : List Value} {T : u_T} {Nn : Nat} {r : UInt64} (hM : gKd l z b mL rt d' D g N ad ln A (gr i :: as) A' r) (hs : g_site own Cn ix z b mL rt np) (hd : d' + 1 ≤ d) (hi : i < N) (he : g_ce g ad (g_ln ln i) (A i) i = .inr (ci, fs)) (hc : vwCl[ci]? = some (Cn, T, Nn)) (hn : as.length = np) (hst : st0 = as.reverse ++ gr i :: st) (hcat : (st.map g_cat).sum ≤ 8) (hkn : k ≤ R.cells ∧ n ≤ R.slots) (hdg : decode cc pc = .ok (.invokevirtual ix, 3)) (kk : gJ p l e R s m args below meth c Q nL D g As N ad ln A' loc k n (pc + 3) (gd r :: st)) : gJ p l e R s m args below meth c Q nL D g As N ad ln A loc k n pc st0 := by
  intro H locs ls hP hD hS hl
  have hF := g_frees hD hS C.2.2.2.2.2.2.1
  refine va_calld (va_runV (C := Cn) (b := ad i) (As := as.map (g_v ad)) (rest := st.map (g_v ad)) ⟨C.1, C.2.1, C.2.2.1, C.2.2.2.1, C.2.2.2.2.1⟩ (hM H.size) (cwV np C.2.2.2.2.1 (g_goodV hs) rfl rfl rfl hs.2.2.2.2.2.1 (g_room C.2.2.2.2.2.2.2.2 hd hs.2.2.2.2.2.2)) ⟨g_blind, va_recv C.2.2.2.2.2.1 hP (q0 := i) hc (by rw [gw_at hi, he]), fun U hU hW => ⟨rfl, by rw [hU], by rw [hU]; exact hP, va_K.moved hW.alike C.2.2.2.2.2.1, hD.weaken (fun _ _ _ _ => trivial)⟩⟩ rfl (by rw [List.length_map]; exact hn) hl.1 (by show st0.map (g_v ad) = _; rw [hst]; simp [g_v]) (g_lv hcat) hdg ⟨by omega, by omega⟩) hS (fun q _ h => hF q h) hF (fun r u t H1 locs1 ht hvm hw hB hz1 hk1 hS => ?_)
  subst hw
  obtain ⟨hP1, hK1, hD1⟩ := hB
  rw [ht] at hP1
  exact kk H1 locs1 ls hP1 (hD1.weaken (fun _ _ _ h => hF _ h)) hS hl
def gEAd (below : List Frame) (D : va_G) (g : gT) (N : Nat) (ad ln : Nat → Nat) (A A' : gM) (u : Nat × Nat × Nat) (r : UInt64) (args : Array Value) (s : State) : State → Prop := MQ below (g_QAd D g N ad ln A s.heap.size A' u.1 r) args s u.2.1 u.2.2 (va_A (gw g ad ln A N) s.heap.size)
theorem g_metAd {y : MethodName} {b : ByteArray} {nl : Nat} {rt : Option FieldType} {av : List gV} {u : Nat × Nat × Nat} {r : UInt64} (hpl : plainName y.cls = true) (hlen : (av.map g_cat).foldr (fun c n => (if c = 2 then 2 else 1) + n) 0 ≤ nl)
    (body : ∀ (p : Program) (e : Env) (s : State) (m : MethodId) (args : Array Value) (below : List Frame) (meth : Method) (c : Code), gC p (g_rmx d u.2.1 u.2.2) s m args meth c b y.cls nl D g (va_A (gw g ad ln A N) s.heap.size) d → meth.sig.returnType = rt → gJ p l e (g_rmx d u.2.1 u.2.2) s m args below meth c (gEAd below D g N ad ln A A' u r args s) nl D g (va_A (gw g ad ln A N) s.heap.size) N ad ln A (g_args 0 av) 0 0 0 []) : gAd l y b nl rt d D g N ad ln A av A' u r := by
  intro sz
  refine Met.ofW (cc := b) (maxL := nl) (ret := rt) hpl rfl ?_
  intro p e s m args below meth c s₁ B hml hv
  obtain ⟨rfl, hsz, hP, hK, hD0⟩ := hv
  subst hsz
  have hts := atoms_spec (ws := g_ws y b nl rt) B.pre
  have hown : s.vm.findClass y.cls = some m.cls := findClass_of_methodNamed B.named
  have hl := lv_entry (av.map (g_v ad)) (n := nl) (by rw [g_sl_len]; exact hlen)
  rw [lg_entry_eq]
  rw [g_args_map] at hl
  exact body p e s m _ below meth c ⟨B.exec, B.bytes, hml, hown, fun w hw => hts w (List.mem_cons_of_mem _ hw), hK, fun q h => Or.inr h, B.notSynchronized, Nat.le_refl _, Nat.le_refl _⟩ B.returns s.heap [] _ hP hD0.self va_S.rf hl
theorem g_retAd (C : gC p R s m args meth c cc own nL D g (va_A (gw g ad0 ln0 A0 N) s.heap.size) d) {r : UInt64} (hch : g_chg N ad0 ln0 ad ln cp') (hr : meth.sig.returnType = some .double) (hdg : decode cc pc = .ok (.dreturn, 1)) : gJ p l e R s m args below meth c (gEAd below D g N ad0 ln0 A0 A (cp', k, n) r args s) nL D g (va_A (gw g ad0 ln0 A0 N) s.heap.size) N ad ln A loc k n pc [gd r] := fun H locs ls hP hD hS hl => W.dret (v := r) C.1 C.2.1 hr (fun t ht hW => ⟨⟨r, (ad, ln), rfl, rfl, hch, by rw [ht]; exact hP, va_K.moved hW.alike C.2.2.2.2.2.1, hD⟩, hS.F ht⟩) hS.2.2 hdg C.2.2.2.2.2.2.2.1
theorem g_callAdV (C : gC p R s m args meth c cc own nL D g As d) (i : Nat) (as : List gV) {st0 : List gV} {Cn : String} {ci ix np mL d' : Nat} {z : MethodName} {b : ByteArray} {rt : Option FieldType} {fs : List Value} {T : u_T} {Nn : Nat} {u : Nat × Nat × Nat} {r : UInt64} (hM : gAd l z b mL rt d' D g N ad ln A (gr i :: as) A1 u r) (hs : g_site own Cn ix z b mL rt np) (hd : d' + 1 ≤ d) (hi : i < N) (he : g_ce g ad (g_ln ln i) (A i) i = .inr (ci, fs)) (hc : vwCl[ci]? = some (Cn, T, Nn)) (hn : as.length = np) (hst : st0 = as.reverse ++ gr i :: st) (hcat : (st.map g_cat).sum ≤ 8) (hkn : k + u.2.1 ≤ R.cells ∧ n + u.2.2 ≤ R.slots) (hr : g_rok N (loc.map Prod.snd)) (hr2 : g_rok N st) (hdg : decode cc pc = .ok (.invokevirtual ix, 3)) (kk : ∀ (ad1 ln1 : Nat → Nat), g_chg N ad ln ad1 ln1 u.1 → gJ p l e R s m args below meth c Q nL D g As N ad1 ln1 A1 loc (k + u.2.1) (n + u.2.2) (pc + 3) (gd r :: st)) : gJ p l e R s m args below meth c Q nL D g As N ad ln A loc k n pc st0 := by
  intro H locs ls hP hD hS hl
  have hF := g_frees hD hS C.2.2.2.2.2.2.1
  refine va_calld (va_runV (C := Cn) (b := ad i) (As := as.map (g_v ad)) (rest := st.map (g_v ad)) ⟨C.1, C.2.1, C.2.2.1, C.2.2.2.1, C.2.2.2.2.1⟩ (hM H.size) (cwV np C.2.2.2.2.1 (g_goodV hs) rfl rfl rfl hs.2.2.2.2.2.1 (g_roomx C.2.2.2.2.2.2.2.2 hd hs.2.2.2.2.2.2)) ⟨g_blind, va_recv C.2.2.2.2.2.1 hP (q0 := i) hc (by rw [gw_at hi, he]), fun U hU hW => ⟨rfl, by rw [hU], by rw [hU]; exact hP, va_K.moved hW.alike C.2.2.2.2.2.1, hD.weaken (fun _ _ _ _ => trivial)⟩⟩ rfl (by rw [List.length_map]; exact hn) hl.1 (by show st0.map (g_v ad) = _; rw [hst]; simp [g_v]) (g_lv hcat) hdg hkn) hS (fun q _ h => hF q h) hF (fun x u2 t H1 locs1 ht hvm hw hB hz1 hk1 hS => ?_)
  subst hw
  obtain ⟨hch, hP1, hK1, hD1⟩ := hB
  rw [ht] at hP1
  have e3 : (gd x :: st).map (g_v u2.1) = .double x :: st.map (g_v ad) := by rw [List.map_cons, g_rok_st hch hr2]; rfl
  have hk := kk u2.1 u2.2 hch H1 locs1 ls hP1 (hD1.weaken (fun _ _ _ h => hF _ h)) hS (by rw [g_rok_loc hch hr]; exact hl)
  rw [e3] at hk
  exact hk
theorem g_ddiv_ok {a b : Int32} (hb : ¬ b = 0) : vf_n64 (FP.ddiv (FP.i2d a) (FP.i2d b)) := by
  have h1 := FP.Core.i2d_mag a
  have h2 := FP.Core.i2d_ne_zero hb
  have hz : ¬ FP.Core.DZero (FP.Core.i2d b) := by
    rw [FP.Core.zero_bits2]; exact h2
  have hn : FP.Core.dIsNaN (FP.Core.i2d a) = false := by
    rw [FP.Core.notNaN_iff]; exact (FP.Core.i2d_fin a).ne_nan
  have h := FP.Core.ddiv_out hn (FP.Core.i2d_fin b) hz
  have h3 : ¬ 9218868437227405312 < (FP.ddiv (FP.i2d a) (FP.i2d b)).toNat % 2 ^ 63 := fun q => by
    have h4 := (FP.Core.isNaN_bits _).mpr q
    have h5 : FP.Core.dIsNaN (FP.ddiv (FP.i2d a) (FP.i2d b)) = false := h
    rw [h5] at h4
    cases h4
  show (FP.ddiv (FP.i2d a) (FP.i2d b)) &&& 0x7fffffffffffffff ≤ 0x7ff0000000000000
  have h6 : (0x7fffffffffffffff : UInt64).toNat = 2 ^ 63 - 1 := by decide
  have h7 : (0x7ff0000000000000 : UInt64).toNat = 9218868437227405312 := by decide
  rw [UInt64.le_iff_toNat_le, UInt64.toNat_and, h6, h7, Nat.and_two_pow_sub_one_eq_mod]
  omega
theorem g_ddiv (C : gC p R s m args meth c cc own nL D g As d) {a b : Int32} (hb : ¬ b = 0) (hdg : decode cc pc = .ok (.ddiv, 1)) (kk : gJ p l e R s m args below meth c Q nL D g As N ad ln A loc k n (pc + 1) (gd (FP.ddiv (FP.i2d a) (FP.i2d b)) :: st)) : gJ p l e R s m args below meth c Q nL D g As N ad ln A loc k n pc (gd (FP.i2d b) :: gd (FP.i2d a) :: st) := fun H locs ls hP hD hS hl => lv_ddiv C.1 C.2.1 hdg (g_ddiv_ok hb) (kk H locs ls hP hD hS hl)
end GD
