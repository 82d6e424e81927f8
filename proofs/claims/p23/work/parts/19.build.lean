theorem qs_L_89 : g_siteS RL 89 yL_cell cL_cell 2 (some .int) 2 := ⟨g_tb (List.mem_of_getElem? (i := 607) (by decide +kernel)) (by decide +kernel), g_tb (List.mem_of_getElem? (i := 608) (by decide +kernel)) (by decide +kernel), g_tb (List.mem_of_getElem? (i := 32) (by decide +kernel)) (by decide +kernel), g_tb (List.mem_of_getElem? (i := 609) (by decide +kernel)) (by decide +kernel), ⟨rfl, by decide, by decide, by decide +kernel⟩, by decide⟩
theorem qs_L_92 : g_siteS RL 92 yL_more cL_more 11 (some (.array (.array .int))) 3 := ⟨g_tb (List.mem_of_getElem? (i := 615) (by decide +kernel)) (by decide +kernel), g_tb (List.mem_of_getElem? (i := 616) (by decide +kernel)) (by decide +kernel), g_tb (List.mem_of_getElem? (i := 32) (by decide +kernel)) (by decide +kernel), g_tb (List.mem_of_getElem? (i := 617) (by decide +kernel)) (by decide +kernel), ⟨rfl, by decide, by decide, by decide +kernel⟩, by decide⟩
theorem dL_build_0 : decode cL_build 0 = .ok (.iconst 0, 1) := by decide +kernel
theorem dL_build_1 : decode cL_build 1 = .ok (.anewarray 61, 3) := by decide +kernel
theorem dL_build_4 : decode cL_build 4 = .ok (.astore_n 2, 1) := by decide +kernel
theorem dL_build_5 : decode cL_build 5 = .ok (.bipush 8, 2) := by decide +kernel
theorem dL_build_7 : decode cL_build 7 = .ok (.aload_n 1, 1) := by decide +kernel
theorem dL_build_8 : decode cL_build 8 = .ok (.iconst 0, 1) := by decide +kernel
theorem dL_build_9 : decode cL_build 9 = .ok (.invokestatic 89, 3) := by decide +kernel
theorem dL_build_12 : decode cL_build 12 = .ok (.bipush 26, 2) := by decide +kernel
theorem dL_build_14 : decode cL_build 14 = .ok (.invokestatic 55, 3) := by decide +kernel
theorem dL_build_17 : decode cL_build 17 = .ok (.iadd, 1) := by decide +kernel
theorem dL_build_18 : decode cL_build 18 = .ok (.istore_n 3, 1) := by decide +kernel
theorem dL_build_19 : decode cL_build 19 = .ok (.iconst 0, 1) := by decide +kernel
theorem dL_build_20 : decode cL_build 20 = .ok (.istore 4, 2) := by decide +kernel
theorem dL_build_22 : decode cL_build 22 = .ok (.iload 4, 2) := by decide +kernel
theorem dL_build_24 : decode cL_build 24 = .ok (.iload_n 3, 1) := by decide +kernel
theorem dL_build_25 : decode cL_build 25 = .ok (.if_icmp .ge 43, 3) := by decide +kernel
theorem dL_build_28 : decode cL_build 28 = .ok (.aload_n 2, 1) := by decide +kernel
theorem dL_build_29 : decode cL_build 29 = .ok (.ifnull 39, 3) := by decide +kernel
theorem dL_build_32 : decode cL_build 32 = .ok (.aload_n 0, 1) := by decide +kernel
theorem dL_build_33 : decode cL_build 33 = .ok (.aload_n 2, 1) := by decide +kernel
theorem dL_build_34 : decode cL_build 34 = .ok (.aload_n 1, 1) := by decide +kernel
theorem dL_build_35 : decode cL_build 35 = .ok (.iload 4, 2) := by decide +kernel
theorem dL_build_37 : decode cL_build 37 = .ok (.bipush 16, 2) := by decide +kernel
theorem dL_build_39 : decode cL_build 39 = .ok (.irem, 1) := by decide +kernel
theorem dL_build_40 : decode cL_build 40 = .ok (.invokestatic 89, 3) := by decide +kernel
theorem dL_build_43 : decode cL_build 43 = .ok (.iload 4, 2) := by decide +kernel
theorem dL_build_45 : decode cL_build 45 = .ok (.bipush 16, 2) := by decide +kernel
theorem dL_build_47 : decode cL_build 47 = .ok (.idiv, 1) := by decide +kernel
theorem dL_build_48 : decode cL_build 48 = .ok (.iconst 3, 1) := by decide +kernel
theorem dL_build_49 : decode cL_build 49 = .ok (.imul, 1) := by decide +kernel
theorem dL_build_50 : decode cL_build 50 = .ok (.ishr, 1) := by decide +kernel
theorem dL_build_51 : decode cL_build 51 = .ok (.sipush 349, 3) := by decide +kernel
theorem dL_build_54 : decode cL_build 54 = .ok (.iload 4, 2) := by decide +kernel
theorem dL_build_56 : decode cL_build 56 = .ok (.imul, 1) := by decide +kernel
theorem dL_build_57 : decode cL_build 57 = .ok (.iadd, 1) := by decide +kernel
theorem dL_build_58 : decode cL_build 58 = .ok (.invokestatic 92, 3) := by decide +kernel
theorem dL_build_61 : decode cL_build 61 = .ok (.astore_n 2, 1) := by decide +kernel
theorem dL_build_62 : decode cL_build 62 = .ok (.iinc 4 1, 3) := by decide +kernel
theorem dL_build_65 : decode cL_build 65 = .ok (.goto (-43), 3) := by decide +kernel
theorem dL_build_68 : decode cL_build 68 = .ok (.aload_n 2, 1) := by decide +kernel
theorem dL_build_69 : decode cL_build 69 = .ok (.areturn, 1) := by decide +kernel
section L19
variable {p : Program} {l : Launch} {e : Env} {R : Room} {s : State} {m : MethodId} {args : Array Value} {below : List Frame} {meth : Method} {c : Code} {D : va_G} {g : gT} {ad0 ln0 ad ln : Nat → Nat} {N0 : Nat} {A0 : gM} {b L : Nat} {xs : Nat → Int32}
def mL_build_b22 (xs : Nat → Int32) (L : Nat) (K22 : Nat → (Nat → Nat) → Nat → Nat → gM → Nat → Int32 → Int32 → Option (Nat × (Nat → Nat) × gM × Nat)) (N : Nat) (ln : Nat → Nat) (k n : Nat) (A : gM) (x2 : Nat) (x3 : Int32) (x4 : Int32) : Option (Nat × (Nat → Nat) × gM × Nat) :=
  if x3 ≤ x4 then
  if k ≤ 800 ∧ n ≤ 12000 then some (N, ln, A, x2) else none
  else
  if ¬ 16 = (0 : Int32) then
  if (k + 0 ≤ 800 ∧ n + 0 ≤ 12000) ∧ x2 < N then g_cp (mL_cell xs L N ln A (x4 - x4 / 16 * 16)) fun N8 ln9 A7 r6 => if N ≤ N8 then if ¬ 16 = (0 : Int32) then
  if ((k + 0) + 20 ≤ 800 ∧ (n + 0) + 300 ≤ 12000) ∧ x2 < N8 then g_cp (mL_more xs L N8 ln9 A7 x2 ((r6 >>> (((x4 / 16) * 3) &&& 31)) + (349 * x4))) fun N15 ln16 A14 r13 => if N8 ≤ N15 then g_let (x4 + 1) fun v17 =>
  K22 N15 ln16 ((k + 0) + 20) ((n + 0) + 300) A14 r13 x3 v17
  else none
  else none
  else none
  else none
  else none
  else none
def mL_build_L22 (xs : Nat → Int32) (L : Nat) : Nat → Nat → (Nat → Nat) → Nat → Nat → gM → Nat → Int32 → Int32 → Option (Nat × (Nat → Nat) × gM × Nat)
  | 0 => fun _ _ _ _ _ _ _ _ => none
  | f + 1 => fun N ln k n A x2 x3 x4 => mL_build_b22 xs L (mL_build_L22 xs L f) N ln k n A x2 x3 x4
def mL_build_b0 (xs : Nat → Int32) (L : Nat) (N : Nat) (ln : Nat → Nat) (k n : Nat) (A : gM) : Option (Nat × (Nat → Nat) × gM × Nat) :=
  if ((0 : Int32).toNatClampNeg < 1000 ∧ ¬ (0 : Int32) < 0) ∧ (k + 1 ≤ 800 ∧ n + (0 : Int32).toNatClampNeg ≤ 12000) then g_let (N + 1) fun N4 => g_let (va_up ln N (1000 + (0 : Int32).toNatClampNeg)) fun ln2 => g_let (g_row A N (fun _ => -1)) fun A3 => if ((k + 1) + 0 ≤ 800 ∧ (n + (0 : Int32).toNatClampNeg) + 0 ≤ 12000) ∧ N < N4 then g_cp (mL_cell xs L N4 ln2 A3 0) fun N9 ln10 A8 r7 => if N4 ≤ N9 then if ((k + 1) + 0) ≤ 800 ∧ ((n + (0 : Int32).toNatClampNeg) + 0) ≤ 12000 then (mL_below A8 r7 26).bind fun q11 =>
  g_let (8 + q11.2) fun v13 =>
  mL_build_L22 xs L gF N9 ln10 ((k + 1) + 0) ((n + (0 : Int32).toNatClampNeg) + 0) q11.1 N v13 0
  else none
  else none
  else none
  else none
def mL_build (xs : Nat → Int32) (L : Nat) (N : Nat) (ln : Nat → Nat) (A : gM) : Option (Nat × (Nat → Nat) × gM × Nat) := mL_build_b0 xs L N ln 0 0 A
set_option maxHeartbeats 4000000 in
set_option maxRecDepth 20000 in
theorem wL_build_b22  {N1 : Nat} {ln1 : Nat → Nat} {A1 : gM} {r : Nat} (C : gC p (g_rmx 120 800 12000) s m args meth c cL_build RL 5 D g (va_A (gw g ad0 ln0 A0 N0) s.heap.size) 120) (CX : gCP l s (va_A (gw g ad0 ln0 A0 N0) s.heap.size) b L xs) (hr : meth.sig.returnType = some (.array (.array .int))) {K22 : Nat → (Nat → Nat) → Nat → Nat → gM → Nat → Int32 → Int32 → Option (Nat × (Nat → Nat) × gM × Nat)} (hK22 : ∀ {N : Nat} {ad ln : Nat → Nat} (hN : 183 ≤ N) (hNN : N0 ≤ N) (hag : ∀ i, i < N0 → ad i = ad0 i) {k n : Nat} {A : gM} {x2 : Nat} {x3 : Int32} {x4 : Int32}, K22 N ln k n A x2 x3 x4 = some (N1, ln1, A1, r) → gJ p l e (g_rmx 120 800 12000) s m args below meth c (gEPr below D g N0 ad0 ln0 A0 N1 ln1 A1 r 800 12000 args s) 5 D g (va_A (gw g ad0 ln0 A0 N0) s.heap.size) N ad ln A [(0, gr 0), (1, .inr (.ref b)), (2, gr x2), (3, gi x3), (4, gi x4)] k n 22 []) {N : Nat} {ad ln : Nat → Nat} (hN : 183 ≤ N) (hNN : N0 ≤ N) (hag : ∀ i, i < N0 → ad i = ad0 i) {k n : Nat} {A : gM} {x2 : Nat} {x3 : Int32} {x4 : Int32} (h : mL_build_b22 xs L K22 N ln k n A x2 x3 x4 = some (N1, ln1, A1, r)) : gJ p l e (g_rmx 120 800 12000) s m args below meth c (gEPr below D g N0 ad0 ln0 A0 N1 ln1 A1 r 800 12000 args s) 5 D g (va_A (gw g ad0 ln0 A0 N0) s.heap.size) N ad ln A [(0, gr 0), (1, .inr (.ref b)), (2, gr x2), (3, gi x3), (4, gi x4)] k n 22 [] := by
  unfold mL_build_b22 at h
  refine g_iload C 4 dL_build_22 rfl ?_
  refine g_iload_n C 3 dL_build_24 rfl ?_
  refine g_icmp_ge C dL_build_25 (tgt := 68) (by decide) (fun c1 => ?_) (fun c1 => ?_)
  · have h := g_tt c1 h
    refine g_aload_n C 2 dL_build_68 rfl ?_
    obtain ⟨hg2, h⟩ := g_gd h
    obtain ⟨rfl, rfl, rfl, rfl⟩ := g_end h
    exact g_retPr C hag hr (Or.inr ⟨_, rfl⟩) hg2.1 hg2.2 dL_build_69
  · have h := g_ff c1 h
    refine g_aload_n C 2 dL_build_28 rfl ?_
    refine g_ifn C dL_build_29 ?_
    refine g_aload_n C 0 dL_build_32 rfl ?_
    refine g_aload_n C 2 dL_build_33 rfl ?_
    refine g_aloadX_n C 1 dL_build_34 rfl ?_
    refine g_iload C 4 dL_build_35 rfl ?_
    refine g_bipush (v := 16) C dL_build_37 (by decide) ?_
    obtain ⟨hg3, h⟩ := g_gd h
    refine g_irem C hg3 dL_build_39 ?_
    obtain ⟨⟨hg5a, hg5_0⟩, h⟩ := g_gd h
    obtain ⟨N8, ln9, A7, r6, eq4, h⟩ := g_cpx h
    obtain ⟨hg5N, h⟩ := g_gd h
    refine g_callPi C CX [.inr (.ref b), gi (x4 - x4 / 16 * 16)] (kL_cell hN CX.1 eq4) qs_L_89 (by omega) rfl rfl (Nat.le_of_ble_eq_true rfl) hg5a ⟨(by omega), hg5_0, trivial⟩ ⟨hg5_0, (by omega), trivial⟩ dL_build_40 (fun ad1 hgq => ?_)
    generalize ad1 = ad at hgq ⊢
    have hag : ∀ i, i < N0 → ad i = ad0 i := fun i hi => (hgq i (by omega)).trans (hag i hi)
    have hNN : N0 ≤ N8 := by omega
    have hN : 183 ≤ N8 := by omega
    refine g_iload C 4 dL_build_43 rfl ?_
    refine g_bipush (v := 16) C dL_build_45 (by decide) ?_
    obtain ⟨hg10, h⟩ := g_gd h
    refine g_idiv C hg10 dL_build_47 ?_
    refine g_iconst (v := 3) C dL_build_48 (by decide) ?_
    refine g_imul C dL_build_49 ?_
    refine g_ishr C dL_build_50 ?_
    refine g_sipush (v := 349) C dL_build_51 (by decide) ?_
    refine g_iload C 4 dL_build_54 rfl ?_
    refine g_imul C dL_build_56 ?_
    refine g_iadd C dL_build_57 ?_
    obtain ⟨⟨hg12a, hg12_0⟩, h⟩ := g_gd h
    obtain ⟨N15, ln16, A14, r13, eq11, h⟩ := g_cpx h
    obtain ⟨hg12N, h⟩ := g_gd h
    refine g_callPr C CX [gr 0, gr x2, gi ((r6 >>> (((x4 / 16) * 3) &&& 31)) + (349 * x4))] (kL_more hN CX.1 eq11) qs_L_92 (by omega) rfl rfl (Nat.le_of_ble_eq_true rfl) hg12a ⟨(by omega), hg12_0, trivial⟩ trivial dL_build_58 (fun ad1 hgq => ?_)
    generalize ad1 = ad at hgq ⊢
    have hag : ∀ i, i < N0 → ad i = ad0 i := fun i hi => (hgq i (by omega)).trans (hag i hi)
    have hNN : N0 ≤ N15 := by omega
    have hN : 183 ≤ N15 := by omega
    refine g_astore_n C dL_build_61 (by decide) rfl ?_
    obtain ⟨v17, ev17, h⟩ := g_lt h
    refine g_iinc C 4 dL_build_62 rfl ev17 (by decide) rfl ?_
    refine g_goto C dL_build_65 (tgt := 22) (by decide) ?_
    refine g_sub [2, 3, 1, 4, 0] rfl ?_
    exact hK22 hN hNN hag h

set_option maxHeartbeats 4000000 in
set_option maxRecDepth 20000 in
theorem wL_build_L22  {N1 : Nat} {ln1 : Nat → Nat} {A1 : gM} {r : Nat} (C : gC p (g_rmx 120 800 12000) s m args meth c cL_build RL 5 D g (va_A (gw g ad0 ln0 A0 N0) s.heap.size) 120) (CX : gCP l s (va_A (gw g ad0 ln0 A0 N0) s.heap.size) b L xs) (hr : meth.sig.returnType = some (.array (.array .int)))  : ∀ (f : Nat) {N : Nat} {ad ln : Nat → Nat} (hN : 183 ≤ N) (hNN : N0 ≤ N) (hag : ∀ i, i < N0 → ad i = ad0 i) {k n : Nat} {A : gM} {x2 : Nat} {x3 : Int32} {x4 : Int32}, mL_build_L22 xs L f N ln k n A x2 x3 x4 = some (N1, ln1, A1, r) → gJ p l e (g_rmx 120 800 12000) s m args below meth c (gEPr below D g N0 ad0 ln0 A0 N1 ln1 A1 r 800 12000 args s) 5 D g (va_A (gw g ad0 ln0 A0 N0) s.heap.size) N ad ln A [(0, gr 0), (1, .inr (.ref b)), (2, gr x2), (3, gi x3), (4, gi x4)] k n 22 []
  | 0, N, ad, ln, hN, hNN, hag, k, n, A, x2, x3, x4, h => by cases h
  | f + 1, N, ad, ln, hN, hNN, hag, k, n, A, x2, x3, x4, h => wL_build_b22 C CX hr (fun hN hNN hag _ _ _ _ _ _ h => wL_build_L22 C CX hr f hN hNN hag h) hN hNN hag h
set_option maxHeartbeats 4000000 in
set_option maxRecDepth 20000 in
theorem wL_build_b0  {N1 : Nat} {ln1 : Nat → Nat} {A1 : gM} {r : Nat} (C : gC p (g_rmx 120 800 12000) s m args meth c cL_build RL 5 D g (va_A (gw g ad0 ln0 A0 N0) s.heap.size) 120) (CX : gCP l s (va_A (gw g ad0 ln0 A0 N0) s.heap.size) b L xs) (hr : meth.sig.returnType = some (.array (.array .int)))  {N : Nat} {ad ln : Nat → Nat} (hN : 183 ≤ N) (hNN : N0 ≤ N) (hag : ∀ i, i < N0 → ad i = ad0 i) {k n : Nat} {A : gM} (h : mL_build_b0 xs L N ln k n A = some (N1, ln1, A1, r)) : gJ p l e (g_rmx 120 800 12000) s m args below meth c (gEPr below D g N0 ad0 ln0 A0 N1 ln1 A1 r 800 12000 args s) 5 D g (va_A (gw g ad0 ln0 A0 N0) s.heap.size) N ad ln A [(0, gr 0), (1, .inr (.ref b))] k n 0 [] := by
  unfold mL_build_b0 at h
  refine g_iconst (v := 0) C dL_build_0 (by decide) ?_
  obtain ⟨⟨hg1a, hg1b⟩, h⟩ := g_gd h
  obtain ⟨N4, eN4, h⟩ := g_lt h
  obtain ⟨ln2, eln2, h⟩ := g_lt h
  obtain ⟨A3, eA3, h⟩ := g_lt h
  refine g_newR C CX hN qcl_61 ⟨hg1a.2, rfl, hg1a.1⟩ hg1b ⟨(by omega), trivial⟩ trivial dL_build_1 (fun q => ?_)
  rw [eN4, eln2, eA3]
  have hgq : ∀ i, i < N → va_up ad N q i = ad i := g_up_o
  generalize va_up ad N q = ad at hgq ⊢
  have hag : ∀ i, i < N0 → ad i = ad0 i := fun i hi => (hgq i (by omega)).trans (hag i hi)
  have hNN : N0 ≤ N4 := by omega
  have hN : 183 ≤ N4 := by omega
  refine g_astore_n C dL_build_4 (by decide) rfl ?_
  refine g_bipush (v := 8) C dL_build_5 (by decide) ?_
  refine g_aloadX_n C 2 dL_build_7 rfl ?_
  refine g_iconst (v := 0) C dL_build_8 (by decide) ?_
  obtain ⟨⟨hg6a, hg6_0⟩, h⟩ := g_gd h
  obtain ⟨N9, ln10, A8, r7, eq5, h⟩ := g_cpx h
  obtain ⟨hg6N, h⟩ := g_gd h
  refine g_callPi C CX [.inr (.ref b), gi 0] (kL_cell hN CX.1 eq5) qs_L_89 (by omega) rfl rfl (Nat.le_of_ble_eq_true rfl) hg6a ⟨hg6_0, (by omega), trivial⟩ trivial dL_build_9 (fun ad1 hgq => ?_)
  generalize ad1 = ad at hgq ⊢
  have hag : ∀ i, i < N0 → ad i = ad0 i := fun i hi => (hgq i (by omega)).trans (hag i hi)
  have hNN : N0 ≤ N9 := by omega
  have hN : 183 ≤ N9 := by omega
  refine g_bipush (v := 26) C dL_build_12 (by decide) ?_
  obtain ⟨hg12, h⟩ := g_gd h
  obtain ⟨q11, eq11, h⟩ := g_bd h
  refine g_calliS C [gi r7, gi 26] (kL_below hN eq11) qs_L_55 (by omega) rfl rfl (Nat.le_of_ble_eq_true rfl) hg12 dL_build_14 ?_
  refine g_iadd C dL_build_17 ?_
  obtain ⟨v13, ev13, h⟩ := g_lt h
  refine g_topi ev13 ?_
  refine g_istore_n C dL_build_18 (by decide) rfl ?_
  refine g_iconst (v := 0) C dL_build_19 (by decide) ?_
  refine g_istore C dL_build_20 (by decide) rfl ?_
  refine g_sub [3, 4, 2, 1, 0] rfl ?_
  exact wL_build_L22 C CX hr gF hN hNN hag h

set_option maxHeartbeats 4000000 in
set_option maxRecDepth 20000 in
theorem kL_build {l : Launch} {D : va_G} {g : gT} {N b L : Nat} {xs : Nat → Int32} {ad ln : Nat → Nat} (hN : 183 ≤ N) (hl : l.stackTraces = false)  {A : gM} {N1 : Nat} {ln1 : Nat → Nat} {A1 : gM} {r : Nat} (h : mL_build xs L N ln A = some (N1, ln1, A1, r)) : gPr l yL_build cL_build 5 (some (.array (.array .int))) (120) 800 12000 D g N ad ln A b L xs [gr 0, .inr (.ref b)] N1 ln1 A1 r := by
  refine g_metPr hl (by decide) (Nat.le_of_ble_eq_true rfl) ?_
  intro p e s m args below meth c C CX hr
  refine g_sub [0, 1] rfl ?_
  exact wL_build_b0 C CX hr hN (Nat.le_refl _) (fun _ _ => rfl) h
end L19
