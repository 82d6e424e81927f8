theorem qa_int : Cond.arrayClass .int ∈ gtb := g_tb (List.mem_of_getElem? (i := 111) (by decide +kernel)) (by decide +kernel)
theorem qsC_X6_54 : g_siteC RX6 54 := ⟨g_tb (List.mem_of_getElem? (i := 814) (by decide +kernel)) (by decide +kernel), g_tb (List.mem_of_getElem? (i := 816) (by decide +kernel)) (by decide +kernel), g_tb (List.mem_of_getElem? (i := 815) (by decide +kernel)) (by decide +kernel), g_tb (List.mem_of_getElem? (i := 86) (by decide +kernel)) (by decide +kernel)⟩
theorem dX6_more_0 : decode cX6_more 0 = .ok (.iconst 2, 1) := by decide +kernel
theorem dX6_more_1 : decode cX6_more 1 = .ok (.aload_n 0, 1) := by decide +kernel
theorem dX6_more_2 : decode cX6_more 2 = .ok (.arraylength, 1) := by decide +kernel
theorem dX6_more_3 : decode cX6_more 3 = .ok (.imul, 1) := by decide +kernel
theorem dX6_more_4 : decode cX6_more 4 = .ok (.newarray .int, 2) := by decide +kernel
theorem dX6_more_6 : decode cX6_more 6 = .ok (.astore_n 1, 1) := by decide +kernel
theorem dX6_more_7 : decode cX6_more 7 = .ok (.aload_n 0, 1) := by decide +kernel
theorem dX6_more_8 : decode cX6_more 8 = .ok (.iconst 0, 1) := by decide +kernel
theorem dX6_more_9 : decode cX6_more 9 = .ok (.aload_n 1, 1) := by decide +kernel
theorem dX6_more_10 : decode cX6_more 10 = .ok (.iconst 0, 1) := by decide +kernel
theorem dX6_more_11 : decode cX6_more 11 = .ok (.aload_n 0, 1) := by decide +kernel
theorem dX6_more_12 : decode cX6_more 12 = .ok (.arraylength, 1) := by decide +kernel
theorem dX6_more_13 : decode cX6_more 13 = .ok (.invokestatic 54, 3) := by decide +kernel
theorem dX6_more_16 : decode cX6_more 16 = .ok (.aload_n 1, 1) := by decide +kernel
theorem dX6_more_17 : decode cX6_more 17 = .ok (.areturn, 1) := by decide +kernel
section M2
variable {p : Program} {l : Launch} {e : Env} {R : Room} {s : State} {m : MethodId} {args : Array Value} {below : List Frame} {meth : Method} {c : Code} {D : va_G} {g : gT} {N : Nat} {ad ln ad0 ln0 : Nat → Nat}
def mX6_more_b6 (N cp k n : Nat) (A : gM) (x0 : Nat) (wx0 : Nat) (ws0 : Nat) : Option (gM × (Nat × Nat × Nat) × Nat) :=
  if ¬ 0 < (0 : Int32) ∧ ¬ 0 < (0 : Int32) ∧ ¬ (Int32.ofNat wx0) < (0 : Int32) ∧ (0 : Int32).toNatClampNeg + (Int32.ofNat wx0).toNatClampNeg ≤ wx0 ∧ (0 : Int32).toNatClampNeg + (Int32.ofNat wx0).toNatClampNeg ≤ ws0 then g_let (g_row A N (va_cpy (A x0) (A N) (0 : Int32).toNatClampNeg (0 : Int32).toNatClampNeg (Int32.ofNat wx0).toNatClampNeg)) fun A2 =>
  some (A2, (cp, k, n), ws0)
  else none
def mX6_more_b0 (N cp k n : Nat) (A : gM) (x0 : Nat) (wx0 : Nat) : Option (gM × (Nat × Nat × Nat) × Nat) :=
  if ¬ (2 * (Int32.ofNat wx0)) < (0 : Int32) ∧ (2 * (Int32.ofNat wx0)).toNatClampNeg ≤ 100000 then
  mX6_more_b6 N cp (k + 1) (n + (2 * (Int32.ofNat wx0)).toNatClampNeg) (g_row A N (fun _ => 0)) x0 wx0 ((2 * (Int32.ofNat wx0)).toNatClampNeg)
  else none
def mX6_more (N cp : Nat) (A : gM) (x0 : Nat) (wx0 : Nat) : Option (gM × (Nat × Nat × Nat) × Nat) := mX6_more_b0 N cp 0 0 A x0 wx0
set_option maxHeartbeats 2000000 in
set_option maxRecDepth 20000 in
theorem oX6_more_b6 {N : Nat} {A' : gM} {u : Nat × Nat × Nat} {r : Nat}  {cp k n : Nat} {A : gM} {x0 : Nat} {wx0 : Nat} {ws0 : Nat} (h : mX6_more_b6 N cp k n A x0 wx0 ws0 = some (A', u, r)) : k ≤ u.2.1 ∧ n ≤ u.2.2 := by
  unfold mX6_more_b6 at h
  obtain ⟨hg1, h⟩ := g_gd h
  obtain ⟨A2, eA2, h⟩ := g_lt h
  obtain ⟨rfl, h2⟩ := Prod.mk.inj (Option.some.inj h)
  obtain ⟨rfl, rfl⟩ := Prod.mk.inj h2
  exact ⟨Nat.le_refl _, Nat.le_refl _⟩

set_option maxHeartbeats 2000000 in
set_option maxRecDepth 20000 in
theorem wX6_more_b6 (hN : 193 ≤ N)  {A0 A' : gM} {u : Nat × Nat × Nat} {r : Nat} (C : gC p (g_rmx 2 u.2.1 u.2.2) s m args meth c cX6_more RX6 2 D g (va_A (gw g ad0 ln0 A0 N) s.heap.size) 2) (hr : meth.sig.returnType = some (.array .int))  {cp k n : Nat} (hch : g_chg N ad0 ln0 ad ln cp) {A : gM} {x0 : Nat} {wx0 : Nat} {ws0 : Nat} (hwx0 : (x0 < (N + 1) ∧ g_isI x0 = true ∧ g_ln ln x0 = wx0)) (hws0 : g_ln ln N = ws0) (h : mX6_more_b6 N cp k n A x0 wx0 ws0 = some (A', u, r)) : gJ p l e (g_rmx 2 u.2.1 u.2.2) s m args below meth c (gEAr below D g N ad0 ln0 A0 A' u r args s) 2 D g (va_A (gw g ad0 ln0 A0 N) s.heap.size) (N + 1) ad ln A [(0, gr x0)] k n 6 [gr N] := by
  have hkn := oX6_more_b6 h
  unfold mX6_more_b6 at h
  refine g_astore_n C dX6_more_6 (by decide) rfl ?_
  refine g_aload_n C 1 dX6_more_7 rfl ?_
  refine g_iconst (v := 0) C dX6_more_8 (by decide) ?_
  refine g_aload_n C 0 dX6_more_9 rfl ?_
  refine g_iconst (v := 0) C dX6_more_10 (by decide) ?_
  refine g_aload_n C 1 dX6_more_11 rfl ?_
  refine g_alen (v := Int32.ofNat wx0) C x0 hwx0.1 hwx0.2.1 (by rw [hwx0.2.2]) dX6_more_12 ?_
  obtain ⟨hg1, h⟩ := g_gd h
  obtain ⟨A2, eA2, h⟩ := g_lt h
  refine g_copy C x0 N qsC_X6_54 hwx0.1 hwx0.2.1 hwx0.2.2 (by omega) (g_isI_big (by omega)) hws0 hg1.1 hg1.2.1 hg1.2.2.1 hg1.2.2.2.1 hg1.2.2.2.2 (by omega) (Nat.le_of_ble_eq_true rfl) eA2 dX6_more_13 ?_
  refine g_aload_n C 0 dX6_more_16 rfl ?_
  obtain ⟨rfl, h2⟩ := Prod.mk.inj (Option.some.inj h)
  obtain ⟨rfl, rfl⟩ := Prod.mk.inj h2
  exact g_retAr C hch ((g_ln_big hN).symm.trans hws0) hr (Or.inr ⟨_, rfl⟩) dX6_more_17

set_option maxHeartbeats 2000000 in
set_option maxRecDepth 20000 in
theorem oX6_more_b0 {N : Nat} {A' : gM} {u : Nat × Nat × Nat} {r : Nat}  {cp k n : Nat} {A : gM} {x0 : Nat} {wx0 : Nat} (h : mX6_more_b0 N cp k n A x0 wx0 = some (A', u, r)) : k ≤ u.2.1 ∧ n ≤ u.2.2 := by
  unfold mX6_more_b0 at h
  obtain ⟨hg1, h⟩ := g_gd h
  have mo := oX6_more_b6 h
  exact ⟨by omega, by omega⟩

set_option maxHeartbeats 2000000 in
set_option maxRecDepth 20000 in
theorem wX6_more_b0 (hN : 193 ≤ N)  {A0 A' : gM} {u : Nat × Nat × Nat} {r : Nat} (C : gC p (g_rmx 2 u.2.1 u.2.2) s m args meth c cX6_more RX6 2 D g (va_A (gw g ad0 ln0 A0 N) s.heap.size) 2) (hr : meth.sig.returnType = some (.array .int))  {cp k n : Nat} (hch : g_chg N ad0 ln0 ad ln cp) {A : gM} {x0 : Nat} {wx0 : Nat} (hwx0 : (x0 < N ∧ g_isI x0 = true ∧ g_ln ln x0 = wx0)) (h : mX6_more_b0 N cp k n A x0 wx0 = some (A', u, r)) : gJ p l e (g_rmx 2 u.2.1 u.2.2) s m args below meth c (gEAr below D g N ad0 ln0 A0 A' u r args s) 2 D g (va_A (gw g ad0 ln0 A0 N) s.heap.size) N ad ln A [(0, gr x0)] k n 0 [] := by
  have hkn := oX6_more_b0 h
  unfold mX6_more_b0 at h
  refine g_iconst (v := 2) C dX6_more_0 (by decide) ?_
  refine g_aload_n C 0 dX6_more_1 rfl ?_
  refine g_alen (v := Int32.ofNat wx0) C x0 hwx0.1 hwx0.2.1 (by rw [hwx0.2.2]) dX6_more_2 ?_
  refine g_imul C dX6_more_3 ?_
  obtain ⟨hg1, h⟩ := g_gd h
  have mo := oX6_more_b6 h
  refine g_newI C (N := N) (by omega) qa_int hg1.1 rfl hg1.2 ⟨mo.1, mo.2⟩ (by simp [g_rlt] <;> omega) (by simp [g_rlt] <;> omega) dX6_more_4 (fun q => ?_)
  have hch : g_chg N ad0 ln0 (va_up ad N q) (va_up ln N (2 * (Int32.ofNat wx0)).toNatClampNeg) cp := g_chg_new (by omega) hch
  have hwx0 := (⟨by omega, hwx0.2.1, g_len_new (w := (2 * (Int32.ofNat wx0)).toNatClampNeg) (N := N) (by have := hwx0.1; omega) hwx0.2.2⟩ : x0 < (N + 1) ∧ g_isI x0 = true ∧ g_ln (va_up ln N (2 * (Int32.ofNat wx0)).toNatClampNeg) x0 = wx0)
  refine g_sub [0] rfl ?_
  exact wX6_more_b6 hN C hr hch ⟨hwx0.1, hwx0.2.1, hwx0.2.2⟩ (g_len_made (N := N) (by omega)) h

set_option maxHeartbeats 2000000 in
set_option maxRecDepth 20000 in
theorem kX6_more {l : Launch} {D : va_G} {g : gT} {N : Nat} (hN : 193 ≤ N) {ad ln : Nat → Nat} {cp : Nat} (hcp : g_cap ln cp) {A A' : gM} {x0 : Nat} {wx0 : Nat} {u : Nat × Nat × Nat} {r : Nat} (hwx0 : (x0 < N ∧ g_isI x0 = true ∧ g_ln ln x0 = wx0)) (h : mX6_more N cp A x0 wx0 = some (A', u, r)) : gAr l yX6_more cX6_more 2 (some (.array .int)) (2) D g N ad ln A [gr x0] A' u r := by
  refine g_metAr (by decide) (Nat.le_of_ble_eq_true rfl) ?_
  intro p e s m args below meth c C hr
  refine g_sub [0] rfl ?_
  exact wX6_more_b0 hN C hr (g_chg.rf hcp) hwx0 h
end M2
