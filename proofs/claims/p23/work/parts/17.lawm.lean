/-- a call that must answer -/
def g_cx {β : Type} (o : Option (gM × (Int32 ⊕ Nat))) (f : gM → Int32 → Option β) : Option β := o.bind fun q => match q.2 with
  | .inl r => f q.1 r
  | .inr _ => none
theorem g_cxx {β : Type} {o : Option (gM × (Int32 ⊕ Nat))} {f : gM → Int32 → Option β} {x : β} (h : g_cx o f = some x) : ∃ A r, o = some (A, .inl r) ∧ f A r = some x := by
  match o, h with
  | some (A, .inl r), h => exact ⟨A, r, rfl, h⟩
def g_cp {α β : Type} (o : Option (Nat × (Nat → Nat) × gM × α)) (f : Nat → (Nat → Nat) → gM → α → Option β) : Option β := o.bind fun q => f q.1 q.2.1 q.2.2.1 q.2.2.2
theorem g_cpx {α β : Type} {o : Option (Nat × (Nat → Nat) × gM × α)} {f : Nat → (Nat → Nat) → gM → α → Option β} {x : β} (h : g_cp o f = some x) : ∃ N ln A r, o = some (N, ln, A, r) ∧ f N ln A r = some x := by
  match o, h with
  | some (N, ln, A, r), h => exact ⟨N, ln, A, r, rfl, h⟩
theorem g_end {α : Type} {N N1 : Nat} {ln ln1 : Nat → Nat} {A A1 : gM} {r r1 : α} (h : some (N, ln, A, r) = some (N1, ln1, A1, r1)) : N1 = N ∧ ln1 = ln ∧ A1 = A ∧ r1 = r := by
  cases h; exact ⟨rfl, rfl, rfl, rfl⟩
theorem g_retLaw {p : Program} {l : Launch} {e : Env} {s : State} {m : MethodId} {below : List Frame} {meth : Method} {c : Code} {D : va_G} {g : gT} {N b L : Nat} {xs : Nat → Int32} {ad ln : Nat → Nat} {A : gM} {loc : List (Nat × gV)} {k n pc d : Nat} (C : gC p room_1 s m #[Value.ref b] meth c cL_law RL 25 D g (fun q : Nat => s.heap.size ≤ q) d) (CX : gCP l s (fun q : Nat => s.heap.size ≤ q) b L xs) (hr : meth.sig.returnType = ret) (hg : k ≤ 600130 ∧ n ≤ 7301080) (hdg : decode cL_law pc = .ok (.ireturn, 1)) : gJ p l e room_1 s m #[Value.ref b] below meth c (lw_Z below #[Value.ref b] s) 25 D g (fun q : Nat => s.heap.size ≤ q) N ad ln A loc k n pc [gi 1] := fun H locs ls hP hD hS hl => by
  refine va_forget (fun q hq => hS.2.2 q hq) ?_
  refine W.widen (k := 600130) (n := 7301080) hg.1 hg.2 ?_
  exact lw_ret C.1 C.2.1 hr C.2.2.2.2.2.2.2.1 hdg
theorem qc_L_7 : Cond.constant RL 7 2147483647 ∈ gtb := g_tb (List.mem_of_getElem? (i := 606) (by decide +kernel)) (by decide +kernel)
theorem dL_below_0 : decode cL_below 0 = .ok (.iload_n 0, 1) := by decide +kernel
theorem dL_below_1 : decode cL_below 1 = .ok (.ldc 7, 2) := by decide +kernel
theorem dL_below_3 : decode cL_below 3 = .ok (.iand, 1) := by decide +kernel
theorem dL_below_4 : decode cL_below 4 = .ok (.iload_n 1, 1) := by decide +kernel
theorem dL_below_5 : decode cL_below 5 = .ok (.irem, 1) := by decide +kernel
theorem dL_below_6 : decode cL_below 6 = .ok (.ireturn, 1) := by decide +kernel
section LB
variable {p : Program} {l : Launch} {e : Env} {R : Room} {s : State} {m : MethodId} {args : Array Value} {below : List Frame} {meth : Method} {c : Code} {D : va_G} {g : gT} {N : Nat} {ad ln : Nat → Nat}
def mL_below_b0 (A : gM) (x0 : Int32) (x1 : Int32) : Option (gM × Int32) :=
  if ¬ x1 = (0 : Int32) then
  some (A, ((x0 &&& 2147483647) - (x0 &&& 2147483647) / x1 * x1))
  else none
def mL_below (A : gM) (x0 : Int32) (x1 : Int32) : Option (gM × Int32) := mL_below_b0 A x0 x1
theorem wL_below_b0 (hN : 183 ≤ N) {A0 A' : gM} {r : Int32} (C : gC p R s m args meth c cL_below RL 2 D g (va_A (gw g ad ln A0 N) s.heap.size) 0) (hr : meth.sig.returnType = some .int)  {A : gM} {x0 : Int32} {x1 : Int32} (h : mL_below_b0 A x0 x1 = some (A', r)) : gJ p l e R s m args below meth c (gEi below D g N ad ln A0 A' r args s) 2 D g (va_A (gw g ad ln A0 N) s.heap.size) N ad ln A [(0, gi x0), (1, gi x1)] 0 0 0 [] := by
  unfold mL_below_b0 at h
  refine g_iload_n C 0 dL_below_0 rfl ?_
  refine g_ldc C qc_L_7 dL_below_1 ?_
  refine g_iand C dL_below_3 ?_
  refine g_iload_n C 1 dL_below_4 rfl ?_
  obtain ⟨hg1, h⟩ := g_gd h
  refine g_irem C hg1 dL_below_5 ?_
  obtain ⟨rfl, rfl⟩ := Prod.mk.inj (Option.some.inj h)
  exact g_reti C hr dL_below_6

theorem kL_below {l : Launch} {D : va_G} {g : gT} {N : Nat} {ad ln : Nat → Nat} (hN : 183 ≤ N) {A A' : gM} {x0 : Int32} {x1 : Int32} {r : Int32} (h : mL_below A x0 x1 = some (A', r)) : gKi l yL_below cL_below 2 (some .int) (0) D g N ad ln A [gi x0, gi x1] A' r := by
  refine g_meti (by decide) (Nat.le_of_ble_eq_true rfl) ?_
  intro p e s m args below meth c C hr
  refine g_sub [0, 1] rfl ?_
  exact wL_below_b0 hN C hr h
end LB
theorem qc_L_8 : Cond.constant RL 8 790386105 ∈ gtb := g_tb (List.mem_of_getElem? (i := 610) (by decide +kernel)) (by decide +kernel)
theorem qs_L_44 : g_site RL RX5 44 yX5_type cX5_type 3 (some .int) 2 := ⟨g_tb (List.mem_of_getElem? (i := 551) (by decide +kernel)) (by decide +kernel), g_tb (List.mem_of_getElem? (i := 552) (by decide +kernel)) (by decide +kernel), g_tb (List.mem_of_getElem? (i := 553) (by decide +kernel)) (by decide +kernel), g_tb (List.mem_of_getElem? (i := 33) (by decide +kernel)) (by decide +kernel), g_tb (List.mem_of_getElem? (i := 554) (by decide +kernel)) (by decide +kernel), ⟨rfl, by decide, by decide, by decide +kernel⟩, by decide⟩
theorem qs_L_26 : g_siteS RL 26 yL_size cL_size 4 (some .int) 2 := ⟨g_tb (List.mem_of_getElem? (i := 619) (by decide +kernel)) (by decide +kernel), g_tb (List.mem_of_getElem? (i := 620) (by decide +kernel)) (by decide +kernel), g_tb (List.mem_of_getElem? (i := 32) (by decide +kernel)) (by decide +kernel), g_tb (List.mem_of_getElem? (i := 621) (by decide +kernel)) (by decide +kernel), ⟨rfl, by decide, by decide, by decide +kernel⟩, by decide⟩
theorem dL_cell_0 : decode cL_cell 0 = .ok (.iload_n 1, 1) := by decide +kernel
theorem dL_cell_1 : decode cL_cell 1 = .ok (.aload_n 0, 1) := by decide +kernel
theorem dL_cell_2 : decode cL_cell 2 = .ok (.arraylength, 1) := by decide +kernel
theorem dL_cell_3 : decode cL_cell 3 = .ok (.if_icmp .ge 9, 3) := by decide +kernel
theorem dL_cell_6 : decode cL_cell 6 = .ok (.aload_n 0, 1) := by decide +kernel
theorem dL_cell_7 : decode cL_cell 7 = .ok (.iload_n 1, 1) := by decide +kernel
theorem dL_cell_8 : decode cL_cell 8 = .ok (.iaload, 1) := by decide +kernel
theorem dL_cell_9 : decode cL_cell 9 = .ok (.goto 9, 3) := by decide +kernel
theorem dL_cell_12 : decode cL_cell 12 = .ok (.ldc 8, 2) := by decide +kernel
theorem dL_cell_14 : decode cL_cell 14 = .ok (.iload_n 1, 1) := by decide +kernel
theorem dL_cell_15 : decode cL_cell 15 = .ok (.iconst 3, 1) := by decide +kernel
theorem dL_cell_16 : decode cL_cell 16 = .ok (.iadd, 1) := by decide +kernel
theorem dL_cell_17 : decode cL_cell 17 = .ok (.imul, 1) := by decide +kernel
theorem dL_cell_18 : decode cL_cell 18 = .ok (.ireturn, 1) := by decide +kernel
theorem dL_size_0 : decode cL_size 0 = .ok (.iconst 1, 1) := by decide +kernel
theorem dL_size_1 : decode cL_size 1 = .ok (.istore_n 2, 1) := by decide +kernel
theorem dL_size_2 : decode cL_size 2 = .ok (.iconst 1, 1) := by decide +kernel
theorem dL_size_3 : decode cL_size 3 = .ok (.istore_n 3, 1) := by decide +kernel
theorem dL_size_4 : decode cL_size 4 = .ok (.iload_n 3, 1) := by decide +kernel
theorem dL_size_5 : decode cL_size 5 = .ok (.iconst 4, 1) := by decide +kernel
theorem dL_size_6 : decode cL_size 6 = .ok (.if_icmp .ge 29, 3) := by decide +kernel
theorem dL_size_9 : decode cL_size 9 = .ok (.aload_n 0, 1) := by decide +kernel
theorem dL_size_10 : decode cL_size 10 = .ok (.iload_n 1, 1) := by decide +kernel
theorem dL_size_11 : decode cL_size 11 = .ok (.aaload, 1) := by decide +kernel
theorem dL_size_12 : decode cL_size 12 = .ok (.iload_n 3, 1) := by decide +kernel
theorem dL_size_13 : decode cL_size 13 = .ok (.iaload, 1) := by decide +kernel
theorem dL_size_14 : decode cL_size 14 = .ok (.ifCond .lt 15, 3) := by decide +kernel
theorem dL_size_17 : decode cL_size 17 = .ok (.iload_n 2, 1) := by decide +kernel
theorem dL_size_18 : decode cL_size 18 = .ok (.aload_n 0, 1) := by decide +kernel
theorem dL_size_19 : decode cL_size 19 = .ok (.aload_n 0, 1) := by decide +kernel
theorem dL_size_20 : decode cL_size 20 = .ok (.iload_n 1, 1) := by decide +kernel
theorem dL_size_21 : decode cL_size 21 = .ok (.aaload, 1) := by decide +kernel
theorem dL_size_22 : decode cL_size 22 = .ok (.iload_n 3, 1) := by decide +kernel
theorem dL_size_23 : decode cL_size 23 = .ok (.iaload, 1) := by decide +kernel
theorem dL_size_24 : decode cL_size 24 = .ok (.invokestatic 26, 3) := by decide +kernel
theorem dL_size_27 : decode cL_size 27 = .ok (.iadd, 1) := by decide +kernel
theorem dL_size_28 : decode cL_size 28 = .ok (.istore_n 2, 1) := by decide +kernel
theorem dL_size_29 : decode cL_size 29 = .ok (.iinc 3 1, 3) := by decide +kernel
theorem dL_size_32 : decode cL_size 32 = .ok (.goto (-28), 3) := by decide +kernel
theorem dL_size_35 : decode cL_size 35 = .ok (.iload_n 2, 1) := by decide +kernel
theorem dL_size_36 : decode cL_size 36 = .ok (.ireturn, 1) := by decide +kernel
theorem dL_isFault_0 : decode cL_isFault 0 = .ok (.aload_n 3, 1) := by decide +kernel
theorem dL_isFault_1 : decode cL_isFault 1 = .ok (.astore 4, 2) := by decide +kernel
theorem dL_isFault_3 : decode cL_isFault 3 = .ok (.aload 4, 2) := by decide +kernel
theorem dL_isFault_5 : decode cL_isFault 5 = .ok (.arraylength, 1) := by decide +kernel
theorem dL_isFault_6 : decode cL_isFault 6 = .ok (.istore 5, 2) := by decide +kernel
theorem dL_isFault_8 : decode cL_isFault 8 = .ok (.iconst 0, 1) := by decide +kernel
theorem dL_isFault_9 : decode cL_isFault 9 = .ok (.istore 6, 2) := by decide +kernel
theorem dL_isFault_11 : decode cL_isFault 11 = .ok (.iload 6, 2) := by decide +kernel
theorem dL_isFault_13 : decode cL_isFault 13 = .ok (.iload 5, 2) := by decide +kernel
theorem dL_isFault_15 : decode cL_isFault 15 = .ok (.if_icmp .ge 40, 3) := by decide +kernel
theorem dL_isFault_18 : decode cL_isFault 18 = .ok (.aload 4, 2) := by decide +kernel
theorem dL_isFault_20 : decode cL_isFault 20 = .ok (.iload 6, 2) := by decide +kernel
theorem dL_isFault_22 : decode cL_isFault 22 = .ok (.iaload, 1) := by decide +kernel
theorem dL_isFault_23 : decode cL_isFault 23 = .ok (.istore 7, 2) := by decide +kernel
theorem dL_isFault_25 : decode cL_isFault 25 = .ok (.aload_n 0, 1) := by decide +kernel
theorem dL_isFault_26 : decode cL_isFault 26 = .ok (.iload 7, 2) := by decide +kernel
theorem dL_isFault_28 : decode cL_isFault 28 = .ok (.iconst 0, 1) := by decide +kernel
theorem dL_isFault_29 : decode cL_isFault 29 = .ok (.invokevirtual 44, 3) := by decide +kernel
theorem dL_isFault_32 : decode cL_isFault 32 = .ok (.iload_n 1, 1) := by decide +kernel
theorem dL_isFault_33 : decode cL_isFault 33 = .ok (.if_icmp .ne 14, 3) := by decide +kernel
theorem dL_isFault_36 : decode cL_isFault 36 = .ok (.aload_n 0, 1) := by decide +kernel
theorem dL_isFault_37 : decode cL_isFault 37 = .ok (.iload 7, 2) := by decide +kernel
theorem dL_isFault_39 : decode cL_isFault 39 = .ok (.iconst 1, 1) := by decide +kernel
theorem dL_isFault_40 : decode cL_isFault 40 = .ok (.invokevirtual 44, 3) := by decide +kernel
theorem dL_isFault_43 : decode cL_isFault 43 = .ok (.iload_n 2, 1) := by decide +kernel
theorem dL_isFault_44 : decode cL_isFault 44 = .ok (.if_icmp .eq 5, 3) := by decide +kernel
theorem dL_isFault_47 : decode cL_isFault 47 = .ok (.iconst 0, 1) := by decide +kernel
theorem dL_isFault_48 : decode cL_isFault 48 = .ok (.ireturn, 1) := by decide +kernel
theorem dL_isFault_49 : decode cL_isFault 49 = .ok (.iinc 6 1, 3) := by decide +kernel
theorem dL_isFault_52 : decode cL_isFault 52 = .ok (.goto (-41), 3) := by decide +kernel
theorem dL_isFault_55 : decode cL_isFault 55 = .ok (.iconst 1, 1) := by decide +kernel
theorem dL_isFault_56 : decode cL_isFault 56 = .ok (.ireturn, 1) := by decide +kernel
section L17
variable {p : Program} {l : Launch} {e : Env} {R : Room} {s : State} {m : MethodId} {args : Array Value} {below : List Frame} {meth : Method} {c : Code} {D : va_G} {g : gT} {ad0 ln0 ad ln : Nat → Nat} {N0 : Nat} {A0 : gM} {b L : Nat} {xs : Nat → Int32}
def mL_cell_b18 (xs : Nat → Int32) (L : Nat) (N : Nat) (ln : Nat → Nat) (k n : Nat) (A : gM) (s0 : Int32) : Option (Nat × (Nat → Nat) × gM × Int32) :=
  if k ≤ 0 ∧ n ≤ 0 then some (N, ln, A, s0) else none
def mL_cell_b0 (xs : Nat → Int32) (L : Nat) (N : Nat) (ln : Nat → Nat) (k n : Nat) (A : gM) (x1 : Int32) : Option (Nat × (Nat → Nat) × gM × Int32) :=
  if (Int32.ofNat L) ≤ x1 then
  mL_cell_b18 xs L N ln k n A (790386105 * (x1 + 3))
  else
  if g_in x1 L = true then
  mL_cell_b18 xs L N ln k n A (xs x1.toNatClampNeg)
  else none
def mL_cell (xs : Nat → Int32) (L : Nat) (N : Nat) (ln : Nat → Nat) (A : gM) (x1 : Int32) : Option (Nat × (Nat → Nat) × gM × Int32) := mL_cell_b0 xs L N ln 0 0 A x1
set_option maxHeartbeats 4000000 in
set_option maxRecDepth 20000 in
theorem wL_cell_b18  {N1 : Nat} {ln1 : Nat → Nat} {A1 : gM} {r : Int32} (C : gC p (g_rmx 1 0 0) s m args meth c cL_cell RL 2 D g (va_A (gw g ad0 ln0 A0 N0) s.heap.size) 1) (CX : gCP l s (va_A (gw g ad0 ln0 A0 N0) s.heap.size) b L xs) (hr : meth.sig.returnType = some .int)  {N : Nat} {ad ln : Nat → Nat} (hN : 183 ≤ N) (hNN : N0 ≤ N) (hag : ∀ i, i < N0 → ad i = ad0 i) {k n : Nat} {A : gM} {s0 : Int32} (h : mL_cell_b18 xs L N ln k n A s0 = some (N1, ln1, A1, r)) : gJ p l e (g_rmx 1 0 0) s m args below meth c (gEPi below D g N0 ad0 ln0 A0 N1 ln1 A1 r 0 0 args s) 2 D g (va_A (gw g ad0 ln0 A0 N0) s.heap.size) N ad ln A [] k n 18 [gi s0] := by
  unfold mL_cell_b18 at h
  obtain ⟨hg1, h⟩ := g_gd h
  obtain ⟨rfl, rfl, rfl, rfl⟩ := g_end h
  exact g_retPi C hag hr hg1.1 hg1.2 dL_cell_18

set_option maxHeartbeats 4000000 in
set_option maxRecDepth 20000 in
theorem wL_cell_b0  {N1 : Nat} {ln1 : Nat → Nat} {A1 : gM} {r : Int32} (C : gC p (g_rmx 1 0 0) s m args meth c cL_cell RL 2 D g (va_A (gw g ad0 ln0 A0 N0) s.heap.size) 1) (CX : gCP l s (va_A (gw g ad0 ln0 A0 N0) s.heap.size) b L xs) (hr : meth.sig.returnType = some .int)  {N : Nat} {ad ln : Nat → Nat} (hN : 183 ≤ N) (hNN : N0 ≤ N) (hag : ∀ i, i < N0 → ad i = ad0 i) {k n : Nat} {A : gM} {x1 : Int32} (h : mL_cell_b0 xs L N ln k n A x1 = some (N1, ln1, A1, r)) : gJ p l e (g_rmx 1 0 0) s m args below meth c (gEPi below D g N0 ad0 ln0 A0 N1 ln1 A1 r 0 0 args s) 2 D g (va_A (gw g ad0 ln0 A0 N0) s.heap.size) N ad ln A [(0, .inr (.ref b)), (1, gi x1)] k n 0 [] := by
  unfold mL_cell_b0 at h
  refine g_iload_n C 1 dL_cell_0 rfl ?_
  refine g_aloadX_n C 0 dL_cell_1 rfl ?_
  refine g_slen C CX dL_cell_2 ?_
  refine g_icmp_ge C dL_cell_3 (tgt := 12) (by decide) (fun c1 => ?_) (fun c1 => ?_)
  · have h := g_tt c1 h
    refine g_ldc C qc_L_8 dL_cell_12 ?_
    refine g_iload_n C 1 dL_cell_14 rfl ?_
    refine g_iconst (v := 3) C dL_cell_15 (by decide) ?_
    refine g_iadd C dL_cell_16 ?_
    refine g_imul C dL_cell_17 ?_
    refine g_sub [] rfl ?_
    exact wL_cell_b18 C CX hr hN hNN hag h
  · have h := g_ff c1 h
    refine g_aloadX_n C 0 dL_cell_6 rfl ?_
    refine g_iload_n C 1 dL_cell_7 rfl ?_
    obtain ⟨hg2, h⟩ := g_gd h
    refine g_sld C CX hg2 dL_cell_8 ?_
    refine g_goto C dL_cell_9 (tgt := 18) (by decide) ?_
    refine g_sub [] rfl ?_
    exact wL_cell_b18 C CX hr hN hNN hag h

set_option maxHeartbeats 4000000 in
set_option maxRecDepth 20000 in
theorem kL_cell {l : Launch} {D : va_G} {g : gT} {N b L : Nat} {xs : Nat → Int32} {ad ln : Nat → Nat} (hN : 183 ≤ N) (hl : l.stackTraces = false)  {A : gM} {x1 : Int32} {N1 : Nat} {ln1 : Nat → Nat} {A1 : gM} {r : Int32} (h : mL_cell xs L N ln A x1 = some (N1, ln1, A1, r)) : gPi l yL_cell cL_cell 2 (some .int) (1) 0 0 D g N ad ln A b L xs [.inr (.ref b), gi x1] N1 ln1 A1 r := by
  refine g_metPi hl (by decide) (Nat.le_of_ble_eq_true rfl) ?_
  intro p e s m args below meth c C CX hr
  refine g_sub [0, 1] rfl ?_
  exact wL_cell_b0 C CX hr hN (Nat.le_refl _) (fun _ _ => rfl) h
def mL_size_b29 (xs : Nat → Int32) (L : Nat) (rec : Nat → (Nat → Nat) → gM → Nat → Int32 → Option (Nat × (Nat → Nat) × gM × Int32)) (K4 : Nat → (Nat → Nat) → Nat → Nat → gM → Nat → Int32 → Int32 → Int32 → Option (Nat × (Nat → Nat) × gM × Int32)) (N : Nat) (ln : Nat → Nat) (k n : Nat) (A : gM) (x0 : Nat) (x1 : Int32) (x2 : Int32) (x3 : Int32) : Option (Nat × (Nat → Nat) × gM × Int32) :=
  g_let (x3 + 1) fun v1 =>
  K4 N ln k n A x0 x1 x2 v1
def mL_size_b4 (xs : Nat → Int32) (L : Nat) (rec : Nat → (Nat → Nat) → gM → Nat → Int32 → Option (Nat × (Nat → Nat) × gM × Int32)) (K4 : Nat → (Nat → Nat) → Nat → Nat → gM → Nat → Int32 → Int32 → Int32 → Option (Nat × (Nat → Nat) × gM × Int32)) (N : Nat) (ln : Nat → Nat) (k n : Nat) (A : gM) (x0 : Nat) (x1 : Int32) (x2 : Int32) (x3 : Int32) : Option (Nat × (Nat → Nat) × gM × Int32) :=
  if 4 ≤ x3 then
  if k ≤ 0 ∧ n ≤ 0 then some (N, ln, A, x2) else none
  else
  if (x0 < N ∧ 183 ≤ x0 ∧ 1000 ≤ ln x0) ∧ g_in x1 (ln x0 - 1000) = true ∧ ¬ (A x0 x1.toNatClampNeg < 0 ∨ x0 ≤ (A x0 x1.toNatClampNeg).toNatClampNeg) then g_let (A x0 x1.toNatClampNeg).toNatClampNeg fun w4 =>
  if (w4 < N ∧ 183 ≤ w4 ∧ ln w4 < 1000) ∧ g_in x3 (ln w4) = true then
  if (A w4 x3.toNatClampNeg) < 0 then
  mL_size_b29 xs L rec K4 N ln k n A x0 x1 x2 x3
  else
  if (x0 < N ∧ 183 ≤ x0 ∧ 1000 ≤ ln x0) ∧ g_in x1 (ln x0 - 1000) = true ∧ ¬ (A x0 x1.toNatClampNeg < 0 ∨ x0 ≤ (A x0 x1.toNatClampNeg).toNatClampNeg) then g_let (A x0 x1.toNatClampNeg).toNatClampNeg fun w8 =>
  if (w8 < N ∧ 183 ≤ w8 ∧ ln w8 < 1000) ∧ g_in x3 (ln w8) = true then
  if (k + 0 ≤ 0 ∧ n + 0 ≤ 0) ∧ x0 < N then g_cp (rec N ln A x0 (A w8 x3.toNatClampNeg)) fun N14 ln15 A13 r12 => if N ≤ N14 then g_let (x2 + r12) fun v16 =>
  mL_size_b29 xs L rec K4 N14 ln15 (k + 0) (n + 0) A13 x0 x1 v16 x3
  else none
  else none
  else none
  else none
  else none
  else none
def mL_size_L4 (xs : Nat → Int32) (L : Nat) (rec : Nat → (Nat → Nat) → gM → Nat → Int32 → Option (Nat × (Nat → Nat) × gM × Int32)) : Nat → Nat → (Nat → Nat) → Nat → Nat → gM → Nat → Int32 → Int32 → Int32 → Option (Nat × (Nat → Nat) × gM × Int32)
  | 0 => fun _ _ _ _ _ _ _ _ _ => none
  | f + 1 => fun N ln k n A x0 x1 x2 x3 => mL_size_b4 xs L rec (mL_size_L4 xs L rec f) N ln k n A x0 x1 x2 x3
def mL_size_b0 (xs : Nat → Int32) (L : Nat) (rec : Nat → (Nat → Nat) → gM → Nat → Int32 → Option (Nat × (Nat → Nat) × gM × Int32)) (N : Nat) (ln : Nat → Nat) (k n : Nat) (A : gM) (x0 : Nat) (x1 : Int32) : Option (Nat × (Nat → Nat) × gM × Int32) :=
  mL_size_L4 xs L rec gF N ln k n A x0 x1 1 1
def mL_size_body (xs : Nat → Int32) (L : Nat) (rec : Nat → (Nat → Nat) → gM → Nat → Int32 → Option (Nat × (Nat → Nat) × gM × Int32)) (N : Nat) (ln : Nat → Nat) (A : gM) (x0 : Nat) (x1 : Int32) : Option (Nat × (Nat → Nat) × gM × Int32) := mL_size_b0 xs L rec N ln 0 0 A x0 x1
def mL_size (xs : Nat → Int32) (L : Nat) : Nat → Nat → (Nat → Nat) → gM → Nat → Int32 → Option (Nat × (Nat → Nat) × gM × Int32)
  | 0 => fun _ _ _ _ _ => none
  | f + 1 => mL_size_body xs L (mL_size xs L f)
set_option maxHeartbeats 4000000 in
set_option maxRecDepth 20000 in
theorem wL_size_b29 {rec : Nat → (Nat → Nat) → gM → Nat → Int32 → Option (Nat × (Nat → Nat) × gM × Int32)} {fu : Nat} (hrec : ∀ {N : Nat} {ad ln : Nat → Nat} (_ : 183 ≤ N) {A : gM} {N1 : Nat} {ln1 : Nat → Nat} {A1 : gM} {y0 : Nat} {y1 r : Int32}, rec N ln A y0 y1 = some (N1, ln1, A1, r) → gPi l yL_size cL_size 4 (some .int) (fu + 1) 0 0 D g N ad ln A b L xs [gr y0, gi y1] N1 ln1 A1 r) {N1 : Nat} {ln1 : Nat → Nat} {A1 : gM} {r : Int32} (C : gC p (g_rmx (fu + 2) 0 0) s m args meth c cL_size RL 4 D g (va_A (gw g ad0 ln0 A0 N0) s.heap.size) (fu + 2)) (CX : gCP l s (va_A (gw g ad0 ln0 A0 N0) s.heap.size) b L xs) (hr : meth.sig.returnType = some .int) {K4 : Nat → (Nat → Nat) → Nat → Nat → gM → Nat → Int32 → Int32 → Int32 → Option (Nat × (Nat → Nat) × gM × Int32)} (hK4 : ∀ {N : Nat} {ad ln : Nat → Nat} (hN : 183 ≤ N) (hNN : N0 ≤ N) (hag : ∀ i, i < N0 → ad i = ad0 i) {k n : Nat} {A : gM} {x0 : Nat} {x1 : Int32} {x2 : Int32} {x3 : Int32}, K4 N ln k n A x0 x1 x2 x3 = some (N1, ln1, A1, r) → gJ p l e (g_rmx (fu + 2) 0 0) s m args below meth c (gEPi below D g N0 ad0 ln0 A0 N1 ln1 A1 r 0 0 args s) 4 D g (va_A (gw g ad0 ln0 A0 N0) s.heap.size) N ad ln A [(0, gr x0), (1, gi x1), (2, gi x2), (3, gi x3)] k n 4 []) {N : Nat} {ad ln : Nat → Nat} (hN : 183 ≤ N) (hNN : N0 ≤ N) (hag : ∀ i, i < N0 → ad i = ad0 i) {k n : Nat} {A : gM} {x0 : Nat} {x1 : Int32} {x2 : Int32} {x3 : Int32} (h : mL_size_b29 xs L rec K4 N ln k n A x0 x1 x2 x3 = some (N1, ln1, A1, r)) : gJ p l e (g_rmx (fu + 2) 0 0) s m args below meth c (gEPi below D g N0 ad0 ln0 A0 N1 ln1 A1 r 0 0 args s) 4 D g (va_A (gw g ad0 ln0 A0 N0) s.heap.size) N ad ln A [(0, gr x0), (1, gi x1), (2, gi x2), (3, gi x3)] k n 29 [] := by
  unfold mL_size_b29 at h
  obtain ⟨v1, ev1, h⟩ := g_lt h
  refine g_iinc C 3 dL_size_29 rfl ev1 (by decide) rfl ?_
  refine g_goto C dL_size_32 (tgt := 4) (by decide) ?_
  refine g_sub [1, 2, 3, 0] rfl ?_
  exact hK4 hN hNN hag h

set_option maxHeartbeats 4000000 in
set_option maxRecDepth 20000 in
theorem wL_size_b4 {rec : Nat → (Nat → Nat) → gM → Nat → Int32 → Option (Nat × (Nat → Nat) × gM × Int32)} {fu : Nat} (hrec : ∀ {N : Nat} {ad ln : Nat → Nat} (_ : 183 ≤ N) {A : gM} {N1 : Nat} {ln1 : Nat → Nat} {A1 : gM} {y0 : Nat} {y1 r : Int32}, rec N ln A y0 y1 = some (N1, ln1, A1, r) → gPi l yL_size cL_size 4 (some .int) (fu + 1) 0 0 D g N ad ln A b L xs [gr y0, gi y1] N1 ln1 A1 r) {N1 : Nat} {ln1 : Nat → Nat} {A1 : gM} {r : Int32} (C : gC p (g_rmx (fu + 2) 0 0) s m args meth c cL_size RL 4 D g (va_A (gw g ad0 ln0 A0 N0) s.heap.size) (fu + 2)) (CX : gCP l s (va_A (gw g ad0 ln0 A0 N0) s.heap.size) b L xs) (hr : meth.sig.returnType = some .int) {K4 : Nat → (Nat → Nat) → Nat → Nat → gM → Nat → Int32 → Int32 → Int32 → Option (Nat × (Nat → Nat) × gM × Int32)} (hK4 : ∀ {N : Nat} {ad ln : Nat → Nat} (hN : 183 ≤ N) (hNN : N0 ≤ N) (hag : ∀ i, i < N0 → ad i = ad0 i) {k n : Nat} {A : gM} {x0 : Nat} {x1 : Int32} {x2 : Int32} {x3 : Int32}, K4 N ln k n A x0 x1 x2 x3 = some (N1, ln1, A1, r) → gJ p l e (g_rmx (fu + 2) 0 0) s m args below meth c (gEPi below D g N0 ad0 ln0 A0 N1 ln1 A1 r 0 0 args s) 4 D g (va_A (gw g ad0 ln0 A0 N0) s.heap.size) N ad ln A [(0, gr x0), (1, gi x1), (2, gi x2), (3, gi x3)] k n 4 []) {N : Nat} {ad ln : Nat → Nat} (hN : 183 ≤ N) (hNN : N0 ≤ N) (hag : ∀ i, i < N0 → ad i = ad0 i) {k n : Nat} {A : gM} {x0 : Nat} {x1 : Int32} {x2 : Int32} {x3 : Int32} (h : mL_size_b4 xs L rec K4 N ln k n A x0 x1 x2 x3 = some (N1, ln1, A1, r)) : gJ p l e (g_rmx (fu + 2) 0 0) s m args below meth c (gEPi below D g N0 ad0 ln0 A0 N1 ln1 A1 r 0 0 args s) 4 D g (va_A (gw g ad0 ln0 A0 N0) s.heap.size) N ad ln A [(0, gr x0), (1, gi x1), (2, gi x2), (3, gi x3)] k n 4 [] := by
  unfold mL_size_b4 at h
  refine g_iload_n C 3 dL_size_4 rfl ?_
  refine g_iconst (v := 4) C dL_size_5 (by decide) ?_
  refine g_icmp_ge C dL_size_6 (tgt := 35) (by decide) (fun c1 => ?_) (fun c1 => ?_)
  · have h := g_tt c1 h
    refine g_iload_n C 2 dL_size_35 rfl ?_
    obtain ⟨hg2, h⟩ := g_gd h
    obtain ⟨rfl, rfl, rfl, rfl⟩ := g_end h
    exact g_retPi C hag hr hg2.1 hg2.2 dL_size_36
  · have h := g_ff c1 h
    refine g_aload_n C 0 dL_size_9 rfl ?_
    refine g_iload_n C 1 dL_size_10 rfl ?_
    obtain ⟨hg3, h⟩ := g_gd h
    obtain ⟨w4, ew4, h⟩ := g_lt h
    refine g_rald C x0 hg3 dL_size_11 ?_
    rw [ew4]
    refine g_iload_n C 3 dL_size_12 rfl ?_
    obtain ⟨hg5, h⟩ := g_gd h
    refine g_jald C w4 hg5 dL_size_13 ?_
    refine g_if_lt C dL_size_14 (tgt := 29) (by decide) (fun c6 => ?_) (fun c6 => ?_)
    · have h := g_tt c6 h
      refine g_sub [0, 1, 2, 3] rfl ?_
      exact wL_size_b29 hrec C CX hr hK4 hN hNN hag h
    · have h := g_ff c6 h
      refine g_iload_n C 2 dL_size_17 rfl ?_
      refine g_aload_n C 0 dL_size_18 rfl ?_
      refine g_aload_n C 0 dL_size_19 rfl ?_
      refine g_iload_n C 1 dL_size_20 rfl ?_
      obtain ⟨hg7, h⟩ := g_gd h
      obtain ⟨w8, ew8, h⟩ := g_lt h
      refine g_rald C x0 hg7 dL_size_21 ?_
      rw [ew8]
      refine g_iload_n C 3 dL_size_22 rfl ?_
      obtain ⟨hg9, h⟩ := g_gd h
      refine g_jald C w8 hg9 dL_size_23 ?_
      obtain ⟨⟨hg11a, hg11_0⟩, h⟩ := g_gd h
      obtain ⟨N14, ln15, A13, r12, eq10, h⟩ := g_cpx h
      obtain ⟨hg11N, h⟩ := g_gd h
      refine g_callPi C CX [gr x0, gi (A w8 x3.toNatClampNeg)] (hrec hN eq10) qs_L_26 (by omega) rfl rfl (Nat.le_of_ble_eq_true rfl) hg11a ⟨hg11_0, trivial⟩ trivial dL_size_24 (fun ad1 hgq => ?_)
      generalize ad1 = ad at hgq ⊢
      have hag : ∀ i, i < N0 → ad i = ad0 i := fun i hi => (hgq i (by omega)).trans (hag i hi)
      have hNN : N0 ≤ N14 := by omega
      have hN : 183 ≤ N14 := by omega
      refine g_iadd C dL_size_27 ?_
      obtain ⟨v16, ev16, h⟩ := g_lt h
      refine g_topi ev16 ?_
      refine g_istore_n C dL_size_28 (by decide) rfl ?_
      refine g_sub [1, 2, 0, 3] rfl ?_
      exact wL_size_b29 hrec C CX hr hK4 hN hNN hag h

set_option maxHeartbeats 4000000 in
set_option maxRecDepth 20000 in
theorem wL_size_L4 {rec : Nat → (Nat → Nat) → gM → Nat → Int32 → Option (Nat × (Nat → Nat) × gM × Int32)} {fu : Nat} (hrec : ∀ {N : Nat} {ad ln : Nat → Nat} (_ : 183 ≤ N) {A : gM} {N1 : Nat} {ln1 : Nat → Nat} {A1 : gM} {y0 : Nat} {y1 r : Int32}, rec N ln A y0 y1 = some (N1, ln1, A1, r) → gPi l yL_size cL_size 4 (some .int) (fu + 1) 0 0 D g N ad ln A b L xs [gr y0, gi y1] N1 ln1 A1 r) {N1 : Nat} {ln1 : Nat → Nat} {A1 : gM} {r : Int32} (C : gC p (g_rmx (fu + 2) 0 0) s m args meth c cL_size RL 4 D g (va_A (gw g ad0 ln0 A0 N0) s.heap.size) (fu + 2)) (CX : gCP l s (va_A (gw g ad0 ln0 A0 N0) s.heap.size) b L xs) (hr : meth.sig.returnType = some .int)  : ∀ (f : Nat) {N : Nat} {ad ln : Nat → Nat} (hN : 183 ≤ N) (hNN : N0 ≤ N) (hag : ∀ i, i < N0 → ad i = ad0 i) {k n : Nat} {A : gM} {x0 : Nat} {x1 : Int32} {x2 : Int32} {x3 : Int32}, mL_size_L4 xs L rec f N ln k n A x0 x1 x2 x3 = some (N1, ln1, A1, r) → gJ p l e (g_rmx (fu + 2) 0 0) s m args below meth c (gEPi below D g N0 ad0 ln0 A0 N1 ln1 A1 r 0 0 args s) 4 D g (va_A (gw g ad0 ln0 A0 N0) s.heap.size) N ad ln A [(0, gr x0), (1, gi x1), (2, gi x2), (3, gi x3)] k n 4 []
  | 0, N, ad, ln, hN, hNN, hag, k, n, A, x0, x1, x2, x3, h => by cases h
  | f + 1, N, ad, ln, hN, hNN, hag, k, n, A, x0, x1, x2, x3, h => wL_size_b4 hrec C CX hr (fun hN hNN hag _ _ _ _ _ _ _ h => wL_size_L4 hrec C CX hr f hN hNN hag h) hN hNN hag h
set_option maxHeartbeats 4000000 in
set_option maxRecDepth 20000 in
theorem wL_size_b0 {rec : Nat → (Nat → Nat) → gM → Nat → Int32 → Option (Nat × (Nat → Nat) × gM × Int32)} {fu : Nat} (hrec : ∀ {N : Nat} {ad ln : Nat → Nat} (_ : 183 ≤ N) {A : gM} {N1 : Nat} {ln1 : Nat → Nat} {A1 : gM} {y0 : Nat} {y1 r : Int32}, rec N ln A y0 y1 = some (N1, ln1, A1, r) → gPi l yL_size cL_size 4 (some .int) (fu + 1) 0 0 D g N ad ln A b L xs [gr y0, gi y1] N1 ln1 A1 r) {N1 : Nat} {ln1 : Nat → Nat} {A1 : gM} {r : Int32} (C : gC p (g_rmx (fu + 2) 0 0) s m args meth c cL_size RL 4 D g (va_A (gw g ad0 ln0 A0 N0) s.heap.size) (fu + 2)) (CX : gCP l s (va_A (gw g ad0 ln0 A0 N0) s.heap.size) b L xs) (hr : meth.sig.returnType = some .int)  {N : Nat} {ad ln : Nat → Nat} (hN : 183 ≤ N) (hNN : N0 ≤ N) (hag : ∀ i, i < N0 → ad i = ad0 i) {k n : Nat} {A : gM} {x0 : Nat} {x1 : Int32} (h : mL_size_b0 xs L rec N ln k n A x0 x1 = some (N1, ln1, A1, r)) : gJ p l e (g_rmx (fu + 2) 0 0) s m args below meth c (gEPi below D g N0 ad0 ln0 A0 N1 ln1 A1 r 0 0 args s) 4 D g (va_A (gw g ad0 ln0 A0 N0) s.heap.size) N ad ln A [(0, gr x0), (1, gi x1)] k n 0 [] := by
  unfold mL_size_b0 at h
  refine g_iconst (v := 1) C dL_size_0 (by decide) ?_
  refine g_istore_n C dL_size_1 (by decide) rfl ?_
  refine g_iconst (v := 1) C dL_size_2 (by decide) ?_
  refine g_istore_n C dL_size_3 (by decide) rfl ?_
  refine g_sub [2, 3, 1, 0] rfl ?_
  exact wL_size_L4 hrec C CX hr gF hN hNN hag h

set_option maxHeartbeats 4000000 in
set_option maxRecDepth 20000 in
theorem kL_size_body {l : Launch} {D : va_G} {g : gT} {N b L : Nat} {xs : Nat → Int32} {ad ln : Nat → Nat} (hN : 183 ≤ N) (hl : l.stackTraces = false) {rec : Nat → (Nat → Nat) → gM → Nat → Int32 → Option (Nat × (Nat → Nat) × gM × Int32)} {fu : Nat} (hrec : ∀ {N : Nat} {ad ln : Nat → Nat} (_ : 183 ≤ N) {A : gM} {N1 : Nat} {ln1 : Nat → Nat} {A1 : gM} {y0 : Nat} {y1 r : Int32}, rec N ln A y0 y1 = some (N1, ln1, A1, r) → gPi l yL_size cL_size 4 (some .int) (fu + 1) 0 0 D g N ad ln A b L xs [gr y0, gi y1] N1 ln1 A1 r) {A : gM} {x0 : Nat} {x1 : Int32} {N1 : Nat} {ln1 : Nat → Nat} {A1 : gM} {r : Int32} (h : mL_size_body xs L rec N ln A x0 x1 = some (N1, ln1, A1, r)) : gPi l yL_size cL_size 4 (some .int) ((fu + 2)) 0 0 D g N ad ln A b L xs [gr x0, gi x1] N1 ln1 A1 r := by
  refine g_metPi hl (by decide) (Nat.le_of_ble_eq_true rfl) ?_
  intro p e s m args below meth c C CX hr
  refine g_sub [0, 1] rfl ?_
  exact wL_size_b0 hrec C CX hr hN (Nat.le_refl _) (fun _ _ => rfl) h
set_option maxHeartbeats 4000000 in
set_option maxRecDepth 20000 in
theorem kL_size {l : Launch} {D : va_G} {g : gT} {b L : Nat} {xs : Nat → Int32} (hl : l.stackTraces = false) : ∀ (f : Nat) {N : Nat} {ad ln : Nat → Nat} (hN : 183 ≤ N) {A : gM} {N1 : Nat} {ln1 : Nat → Nat} {A1 : gM} {x0 : Nat} {x1 r : Int32}, mL_size xs L f N ln A x0 x1 = some (N1, ln1, A1, r) → gPi l yL_size cL_size 4 (some .int) (f + 1) 0 0 D g N ad ln A b L xs [gr x0, gi x1] N1 ln1 A1 r
  | 0, _, _, _, _, _, _, _, _, _, _, _, h => by cases h
  | f + 1, _, _, _, hN, _, _, _, _, _, _, _, h => kL_size_body (fu := f) hN hl (fun hN _ _ _ _ _ _ _ h => kL_size hl f hN h) h
def mL_isFault_b47 (xs : Nat → Int32) (L : Nat) (N : Nat) (ln : Nat → Nat) (k n : Nat) (A : gM) : Option (Nat × (Nat → Nat) × gM × Int32) :=
  if ((0 : Int32) = 0 ∨ (0 : Int32) = 1) ∧ k ≤ 40 ∧ n ≤ 240 then some (N, ln, A, 0) else none
def mL_isFault_b11 (xs : Nat → Int32) (L : Nat) (K11 : Nat → (Nat → Nat) → Nat → Nat → gM → Int32 → Int32 → Nat → Int32 → Int32 → Option (Nat × (Nat → Nat) × gM × Int32)) (N : Nat) (ln : Nat → Nat) (k n : Nat) (A : gM) (x1 : Int32) (x2 : Int32) (x4 : Nat) (x5 : Int32) (x6 : Int32) : Option (Nat × (Nat → Nat) × gM × Int32) :=
  if x5 ≤ x6 then
  if ((1 : Int32) = 0 ∨ (1 : Int32) = 1) ∧ k ≤ 40 ∧ n ≤ 240 then some (N, ln, A, 1) else none
  else
  if (x4 < N ∧ 183 ≤ x4 ∧ ln x4 < 1000) ∧ g_in x6 (ln x4) = true then
  g_let (A x4 x6.toNatClampNeg) fun v4 =>
  if k + 2 ≤ 40 ∧ n + 6 * 2 ≤ 240 then g_cx (mX5_type A v4 0) fun A7 r8 =>
  if r8 = x1 then
  if (k + 2) + 2 ≤ 40 ∧ (n + 6 * 2) + 6 * 2 ≤ 240 then g_cx (mX5_type A7 v4 1) fun A12 r13 =>
  if r13 = x2 then
  g_let (x6 + 1) fun v15 =>
  K11 N ln ((k + 2) + 2) ((n + 6 * 2) + 6 * 2) A12 x1 x2 x4 x5 v15
  else
  mL_isFault_b47 xs L N ln ((k + 2) + 2) ((n + 6 * 2) + 6 * 2) A12
  else none
  else
  mL_isFault_b47 xs L N ln (k + 2) (n + 6 * 2) A7
  else none
  else none
def mL_isFault_L11 (xs : Nat → Int32) (L : Nat) : Nat → Nat → (Nat → Nat) → Nat → Nat → gM → Int32 → Int32 → Nat → Int32 → Int32 → Option (Nat × (Nat → Nat) × gM × Int32)
  | 0 => fun _ _ _ _ _ _ _ _ _ _ => none
  | f + 1 => fun N ln k n A x1 x2 x4 x5 x6 => mL_isFault_b11 xs L (mL_isFault_L11 xs L f) N ln k n A x1 x2 x4 x5 x6
def mL_isFault_b0 (xs : Nat → Int32) (L : Nat) (N : Nat) (ln : Nat → Nat) (k n : Nat) (A : gM) (x1 : Int32) (x2 : Int32) (x3 : Nat) : Option (Nat × (Nat → Nat) × gM × Int32) :=
  if x3 < N ∧ 183 ≤ x3 ∧ ln x3 < 1000 then
  g_let (Int32.ofNat (ln x3)) fun v2 =>
  mL_isFault_L11 xs L gF N ln k n A x1 x2 x3 v2 0
  else none
def mL_isFault (xs : Nat → Int32) (L : Nat) (N : Nat) (ln : Nat → Nat) (A : gM) (x1 : Int32) (x2 : Int32) (x3 : Nat) : Option (Nat × (Nat → Nat) × gM × Int32) := mL_isFault_b0 xs L N ln 0 0 A x1 x2 x3
set_option maxHeartbeats 4000000 in
set_option maxRecDepth 20000 in
theorem wL_isFault_b47  {N1 : Nat} {ln1 : Nat → Nat} {A1 : gM} {r : Int32} (C : gC p (g_rmx 10 40 240) s m args meth c cL_isFault RL 8 D g (va_A (gw g ad0 ln0 A0 N0) s.heap.size) 10) (CX : gCP l s (va_A (gw g ad0 ln0 A0 N0) s.heap.size) b L xs) (hr : meth.sig.returnType = some .boolean)  {N : Nat} {ad ln : Nat → Nat} (hN : 183 ≤ N) (hNN : N0 ≤ N) (hag : ∀ i, i < N0 → ad i = ad0 i) {k n : Nat} {A : gM} (h : mL_isFault_b47 xs L N ln k n A = some (N1, ln1, A1, r)) : gJ p l e (g_rmx 10 40 240) s m args below meth c (gEPi below D g N0 ad0 ln0 A0 N1 ln1 A1 r 40 240 args s) 8 D g (va_A (gw g ad0 ln0 A0 N0) s.heap.size) N ad ln A [] k n 47 [] := by
  unfold mL_isFault_b47 at h
  refine g_iconst (v := 0) C dL_isFault_47 (by decide) ?_
  obtain ⟨hg1, h⟩ := g_gd h
  obtain ⟨rfl, rfl, rfl, rfl⟩ := g_end h
  exact g_retPz C hag hr hg1.1 hg1.2.1 hg1.2.2 dL_isFault_48

set_option maxHeartbeats 4000000 in
set_option maxRecDepth 20000 in
theorem wL_isFault_b11  {N1 : Nat} {ln1 : Nat → Nat} {A1 : gM} {r : Int32} (C : gC p (g_rmx 10 40 240) s m args meth c cL_isFault RL 8 D g (va_A (gw g ad0 ln0 A0 N0) s.heap.size) 10) (CX : gCP l s (va_A (gw g ad0 ln0 A0 N0) s.heap.size) b L xs) (hr : meth.sig.returnType = some .boolean) {K11 : Nat → (Nat → Nat) → Nat → Nat → gM → Int32 → Int32 → Nat → Int32 → Int32 → Option (Nat × (Nat → Nat) × gM × Int32)} (hK11 : ∀ {N : Nat} {ad ln : Nat → Nat} (hN : 183 ≤ N) (hNN : N0 ≤ N) (hag : ∀ i, i < N0 → ad i = ad0 i) {k n : Nat} {A : gM} {x1 : Int32} {x2 : Int32} {x4 : Nat} {x5 : Int32} {x6 : Int32}, K11 N ln k n A x1 x2 x4 x5 x6 = some (N1, ln1, A1, r) → gJ p l e (g_rmx 10 40 240) s m args below meth c (gEPi below D g N0 ad0 ln0 A0 N1 ln1 A1 r 40 240 args s) 8 D g (va_A (gw g ad0 ln0 A0 N0) s.heap.size) N ad ln A [(0, gr 0), (1, gi x1), (2, gi x2), (4, gr x4), (5, gi x5), (6, gi x6)] k n 11 []) {N : Nat} {ad ln : Nat → Nat} (hN : 183 ≤ N) (hNN : N0 ≤ N) (hag : ∀ i, i < N0 → ad i = ad0 i) {k n : Nat} {A : gM} {x1 : Int32} {x2 : Int32} {x4 : Nat} {x5 : Int32} {x6 : Int32} (h : mL_isFault_b11 xs L K11 N ln k n A x1 x2 x4 x5 x6 = some (N1, ln1, A1, r)) : gJ p l e (g_rmx 10 40 240) s m args below meth c (gEPi below D g N0 ad0 ln0 A0 N1 ln1 A1 r 40 240 args s) 8 D g (va_A (gw g ad0 ln0 A0 N0) s.heap.size) N ad ln A [(0, gr 0), (1, gi x1), (2, gi x2), (4, gr x4), (5, gi x5), (6, gi x6)] k n 11 [] := by
  unfold mL_isFault_b11 at h
  refine g_iload C 5 dL_isFault_11 rfl ?_
  refine g_iload C 4 dL_isFault_13 rfl ?_
  refine g_icmp_ge C dL_isFault_15 (tgt := 55) (by decide) (fun c1 => ?_) (fun c1 => ?_)
  · have h := g_tt c1 h
    refine g_iconst (v := 1) C dL_isFault_55 (by decide) ?_
    obtain ⟨hg2, h⟩ := g_gd h
    obtain ⟨rfl, rfl, rfl, rfl⟩ := g_end h
    exact g_retPz C hag hr hg2.1 hg2.2.1 hg2.2.2 dL_isFault_56
  · have h := g_ff c1 h
    refine g_aload C 3 dL_isFault_18 rfl ?_
    refine g_iload C 5 dL_isFault_20 rfl ?_
    obtain ⟨hg3, h⟩ := g_gd h
    refine g_jald C x4 hg3 dL_isFault_22 ?_
    obtain ⟨v4, ev4, h⟩ := g_lt h
    refine g_topi ev4 ?_
    refine g_istore C dL_isFault_23 (by decide) rfl ?_
    refine g_aload_n C 1 dL_isFault_25 rfl ?_
    refine g_iload C 0 dL_isFault_26 rfl ?_
    refine g_iconst (v := 0) C dL_isFault_28 (by decide) ?_
    obtain ⟨hg6, h⟩ := g_gd h
    obtain ⟨A7, r8, eq5, h⟩ := g_cxx h
    refine g_callX C CX 0 [gi v4, gi 0] (kX5_type hN CX.1 eq5) qs_L_44 (by omega) (by omega) rfl rfl rfl rfl (Nat.le_of_ble_eq_true rfl) hg6 dL_isFault_29 ?_
    refine g_iload_n C 2 dL_isFault_32 rfl ?_
    refine g_icmp_ne C dL_isFault_33 (tgt := 47) (by decide) (fun c9 => ?_) (fun c9 => ?_)
    · have h := g_ff c9 h
      refine g_sub [] rfl ?_
      exact wL_isFault_b47 C CX hr hN hNN hag h
    · have h := g_tt c9 h
      refine g_aload_n C 1 dL_isFault_36 rfl ?_
      refine g_iload C 0 dL_isFault_37 rfl ?_
      refine g_iconst (v := 1) C dL_isFault_39 (by decide) ?_
      obtain ⟨hg11, h⟩ := g_gd h
      obtain ⟨A12, r13, eq10, h⟩ := g_cxx h
      refine g_callX C CX 0 [gi v4, gi 1] (kX5_type hN CX.1 eq10) qs_L_44 (by omega) (by omega) rfl rfl rfl rfl (Nat.le_of_ble_eq_true rfl) hg11 dL_isFault_40 ?_
      refine g_iload_n C 3 dL_isFault_43 rfl ?_
      refine g_icmp_eq C dL_isFault_44 (tgt := 49) (by decide) (fun c14 => ?_) (fun c14 => ?_)
      · have h := g_tt c14 h
        obtain ⟨v15, ev15, h⟩ := g_lt h
        refine g_iinc C 6 dL_isFault_49 rfl ev15 (by decide) rfl ?_
        refine g_goto C dL_isFault_52 (tgt := 11) (by decide) ?_
        refine g_sub [2, 3, 4, 5, 6, 0] rfl ?_
        exact hK11 hN hNN hag h
      · have h := g_ff c14 h
        refine g_sub [] rfl ?_
        exact wL_isFault_b47 C CX hr hN hNN hag h

set_option maxHeartbeats 4000000 in
set_option maxRecDepth 20000 in
theorem wL_isFault_L11  {N1 : Nat} {ln1 : Nat → Nat} {A1 : gM} {r : Int32} (C : gC p (g_rmx 10 40 240) s m args meth c cL_isFault RL 8 D g (va_A (gw g ad0 ln0 A0 N0) s.heap.size) 10) (CX : gCP l s (va_A (gw g ad0 ln0 A0 N0) s.heap.size) b L xs) (hr : meth.sig.returnType = some .boolean)  : ∀ (f : Nat) {N : Nat} {ad ln : Nat → Nat} (hN : 183 ≤ N) (hNN : N0 ≤ N) (hag : ∀ i, i < N0 → ad i = ad0 i) {k n : Nat} {A : gM} {x1 : Int32} {x2 : Int32} {x4 : Nat} {x5 : Int32} {x6 : Int32}, mL_isFault_L11 xs L f N ln k n A x1 x2 x4 x5 x6 = some (N1, ln1, A1, r) → gJ p l e (g_rmx 10 40 240) s m args below meth c (gEPi below D g N0 ad0 ln0 A0 N1 ln1 A1 r 40 240 args s) 8 D g (va_A (gw g ad0 ln0 A0 N0) s.heap.size) N ad ln A [(0, gr 0), (1, gi x1), (2, gi x2), (4, gr x4), (5, gi x5), (6, gi x6)] k n 11 []
  | 0, N, ad, ln, hN, hNN, hag, k, n, A, x1, x2, x4, x5, x6, h => by cases h
  | f + 1, N, ad, ln, hN, hNN, hag, k, n, A, x1, x2, x4, x5, x6, h => wL_isFault_b11 C CX hr (fun hN hNN hag _ _ _ _ _ _ _ _ h => wL_isFault_L11 C CX hr f hN hNN hag h) hN hNN hag h
set_option maxHeartbeats 4000000 in
set_option maxRecDepth 20000 in
theorem wL_isFault_b0  {N1 : Nat} {ln1 : Nat → Nat} {A1 : gM} {r : Int32} (C : gC p (g_rmx 10 40 240) s m args meth c cL_isFault RL 8 D g (va_A (gw g ad0 ln0 A0 N0) s.heap.size) 10) (CX : gCP l s (va_A (gw g ad0 ln0 A0 N0) s.heap.size) b L xs) (hr : meth.sig.returnType = some .boolean)  {N : Nat} {ad ln : Nat → Nat} (hN : 183 ≤ N) (hNN : N0 ≤ N) (hag : ∀ i, i < N0 → ad i = ad0 i) {k n : Nat} {A : gM} {x1 : Int32} {x2 : Int32} {x3 : Nat} (h : mL_isFault_b0 xs L N ln k n A x1 x2 x3 = some (N1, ln1, A1, r)) : gJ p l e (g_rmx 10 40 240) s m args below meth c (gEPi below D g N0 ad0 ln0 A0 N1 ln1 A1 r 40 240 args s) 8 D g (va_A (gw g ad0 ln0 A0 N0) s.heap.size) N ad ln A [(0, gr 0), (1, gi x1), (2, gi x2), (3, gr x3)] k n 0 [] := by
  unfold mL_isFault_b0 at h
  refine g_aload_n C 3 dL_isFault_0 rfl ?_
  refine g_astore C dL_isFault_1 (by decide) rfl ?_
  refine g_aload C 0 dL_isFault_3 rfl ?_
  obtain ⟨hg1, h⟩ := g_gd h
  refine g_jlen C x3 hg1 dL_isFault_5 ?_
  obtain ⟨v2, ev2, h⟩ := g_lt h
  refine g_topi ev2 ?_
  refine g_istore C dL_isFault_6 (by decide) rfl ?_
  refine g_iconst (v := 0) C dL_isFault_8 (by decide) ?_
  refine g_istore C dL_isFault_9 (by decide) rfl ?_
  refine g_sub [3, 4, 5, 2, 1, 0] rfl ?_
  exact wL_isFault_L11 C CX hr gF hN hNN hag h

set_option maxHeartbeats 4000000 in
set_option maxRecDepth 20000 in
theorem kL_isFault {l : Launch} {D : va_G} {g : gT} {N b L : Nat} {xs : Nat → Int32} {ad ln : Nat → Nat} (hN : 183 ≤ N) (hl : l.stackTraces = false)  {A : gM} {x1 : Int32} {x2 : Int32} {x3 : Nat} {N1 : Nat} {ln1 : Nat → Nat} {A1 : gM} {r : Int32} (h : mL_isFault xs L N ln A x1 x2 x3 = some (N1, ln1, A1, r)) : gPi l yL_isFault cL_isFault 8 (some .boolean) (10) 40 240 D g N ad ln A b L xs [gr 0, gi x1, gi x2, gr x3] N1 ln1 A1 r := by
  refine g_metPi hl (by decide) (Nat.le_of_ble_eq_true rfl) ?_
  intro p e s m args below meth c C CX hr
  refine g_sub [0, 1, 2, 3] rfl ?_
  exact wL_isFault_b0 C CX hr hN (Nat.le_refl _) (fun _ _ => rfl) h
end L17
