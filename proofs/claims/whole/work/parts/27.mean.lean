
theorem dX5_mean_0 : decode cX5_mean 0 = .ok (.aload_n 0, 1) := by decide +kernel
theorem dX5_mean_1 : decode cX5_mean 1 = .ok (.iconst 1, 1) := by decide +kernel
theorem dX5_mean_2 : decode cX5_mean 2 = .ok (.invokevirtual 64, 3) := by decide +kernel
theorem dX5_mean_5 : decode cX5_mean 5 = .ok (.istore_n 1, 1) := by decide +kernel
theorem dX5_mean_6 : decode cX5_mean 6 = .ok (.iload_n 1, 1) := by decide +kernel
theorem dX5_mean_7 : decode cX5_mean 7 = .ok (.ifCond .ne 5, 3) := by decide +kernel
theorem dX5_mean_10 : decode cX5_mean 10 = .ok (.dconst 0, 1) := by decide +kernel
theorem dX5_mean_11 : decode cX5_mean 11 = .ok (.dreturn, 1) := by decide +kernel
theorem dX5_mean_12 : decode cX5_mean 12 = .ok (.iconst 0, 1) := by decide +kernel
theorem dX5_mean_13 : decode cX5_mean 13 = .ok (.istore_n 2, 1) := by decide +kernel
theorem dX5_mean_14 : decode cX5_mean 14 = .ok (.iconst 0, 1) := by decide +kernel
theorem dX5_mean_15 : decode cX5_mean 15 = .ok (.istore_n 3, 1) := by decide +kernel
theorem dX5_mean_16 : decode cX5_mean 16 = .ok (.iload_n 3, 1) := by decide +kernel
theorem dX5_mean_17 : decode cX5_mean 17 = .ok (.aload_n 0, 1) := by decide +kernel
theorem dX5_mean_18 : decode cX5_mean 18 = .ok (.getfield 10, 3) := by decide +kernel
theorem dX5_mean_21 : decode cX5_mean 21 = .ok (.invokevirtual 42, 3) := by decide +kernel
theorem dX5_mean_24 : decode cX5_mean 24 = .ok (.if_icmp .ge 21, 3) := by decide +kernel
theorem dX5_mean_27 : decode cX5_mean 27 = .ok (.iload_n 2, 1) := by decide +kernel
theorem dX5_mean_28 : decode cX5_mean 28 = .ok (.aload_n 0, 1) := by decide +kernel
theorem dX5_mean_29 : decode cX5_mean 29 = .ok (.getfield 19, 3) := by decide +kernel
theorem dX5_mean_32 : decode cX5_mean 32 = .ok (.iload_n 3, 1) := by decide +kernel
theorem dX5_mean_33 : decode cX5_mean 33 = .ok (.iconst 2, 1) := by decide +kernel
theorem dX5_mean_34 : decode cX5_mean 34 = .ok (.invokevirtual 60, 3) := by decide +kernel
theorem dX5_mean_37 : decode cX5_mean 37 = .ok (.iadd, 1) := by decide +kernel
theorem dX5_mean_38 : decode cX5_mean 38 = .ok (.istore_n 2, 1) := by decide +kernel
theorem dX5_mean_39 : decode cX5_mean 39 = .ok (.iinc 3 1, 3) := by decide +kernel
theorem dX5_mean_42 : decode cX5_mean 42 = .ok (.goto (-26), 3) := by decide +kernel
theorem dX5_mean_45 : decode cX5_mean 45 = .ok (.iload_n 2, 1) := by decide +kernel
theorem dX5_mean_46 : decode cX5_mean 46 = .ok (.i2d, 1) := by decide +kernel
theorem dX5_mean_47 : decode cX5_mean 47 = .ok (.iload_n 1, 1) := by decide +kernel
theorem dX5_mean_48 : decode cX5_mean 48 = .ok (.i2d, 1) := by decide +kernel
theorem dX5_mean_49 : decode cX5_mean 49 = .ok (.ddiv, 1) := by decide +kernel
theorem dX5_mean_50 : decode cX5_mean 50 = .ok (.dreturn, 1) := by decide +kernel
section MN
variable {p : Program} {l : Launch} {e : Env} {R : Room} {s : State} {m : MethodId} {args : Array Value} {below : List Frame} {meth : Method} {c : Code} {D : va_G} {g : gT} {N : Nat} {ad ln : Nat → Nat}
def mX5_mean_b16 (K16 : gM → Int32 → Int32 → Int32 → Option (gM × UInt64)) (A : gM) (x1 : Int32) (x2 : Int32) (x3 : Int32) : Option (gM × UInt64) :=
  (mX2_made A).bind fun q1 =>
  if q1.2 ≤ x3 then
  if ¬ x1 = (0 : Int32) then
  some (q1.1, (FP.ddiv (FP.i2d x2) (FP.i2d x1)))
  else none
  else
  (mX3_fact q1.1 x3 2).bind fun q4 =>
  g_let (x2 + q4.2) fun v5 =>
  g_let (x3 + 1) fun v6 =>
  K16 q4.1 x1 v5 v6
def mX5_mean_L16 : Nat → gM → Int32 → Int32 → Int32 → Option (gM × UInt64)
  | 0 => fun _ _ _ _ => none
  | f + 1 => mX5_mean_b16 (mX5_mean_L16 f)
def mX5_mean_b0 (A : gM) : Option (gM × UInt64) :=
  (mX5_counted A 1).bind fun q1 =>
  if q1.2 = 0 then
  some (q1.1, 0)
  else
  mX5_mean_L16 gF q1.1 q1.2 0 0
def mX5_mean (A : gM) : Option (gM × UInt64) := mX5_mean_b0 A
set_option maxHeartbeats 2000000 in
set_option maxRecDepth 20000 in
theorem wX5_mean_b16 (hN : 183 ≤ N) {A0 A' : gM} {r : UInt64} (C : gC p R s m args meth c cX5_mean RX5 4 D g (va_A (gw g ad ln A0 N) s.heap.size) 2) (hr : meth.sig.returnType = some .double) {K16 : gM → Int32 → Int32 → Int32 → Option (gM × UInt64)} (hK16 : ∀ {A : gM} {x1 : Int32} {x2 : Int32} {x3 : Int32}, K16 A x1 x2 x3 = some (A', r) → gJ p l e R s m args below meth c (gEd below D g N ad ln A0 A' r args s) 4 D g (va_A (gw g ad ln A0 N) s.heap.size) N ad ln A [(0, gr 0), (1, gi x1), (2, gi x2), (3, gi x3)] 0 0 16 []) {A : gM} {x1 : Int32} {x2 : Int32} {x3 : Int32} (h : mX5_mean_b16 K16 A x1 x2 x3 = some (A', r)) : gJ p l e R s m args below meth c (gEd below D g N ad ln A0 A' r args s) 4 D g (va_A (gw g ad ln A0 N) s.heap.size) N ad ln A [(0, gr 0), (1, gi x1), (2, gi x2), (3, gi x3)] 0 0 16 [] := by
  unfold mX5_mean_b16 at h
  refine g_iload_n C 3 dX5_mean_16 rfl ?_
  refine g_aload_n C 0 dX5_mean_17 rfl ?_
  refine g_get (v := gr 1) C 0 0 (by omega) rfl rfl gu_5 (by decide) qf_X5_10 rfl dX5_mean_18 ?_
  obtain ⟨q1, eq1, h⟩ := g_bd h
  refine g_calliV C 1 [] (kX2_made hN eq1) qs_X5_42 (by omega) (by omega) rfl rfl rfl rfl (Nat.le_of_ble_eq_true rfl) ⟨Nat.zero_le _, Nat.zero_le _⟩ dX5_mean_21 ?_
  refine g_icmp_ge C dX5_mean_24 (tgt := 45) (by decide) (fun c2 => ?_) (fun c2 => ?_)
  · have h := g_tt c2 h
    refine g_iload_n C 2 dX5_mean_45 rfl ?_
    refine g_i2d C dX5_mean_46 ?_
    refine g_iload_n C 1 dX5_mean_47 rfl ?_
    refine g_i2d C dX5_mean_48 ?_
    obtain ⟨hg3, h⟩ := g_gd h
    refine g_ddiv C hg3 dX5_mean_49 ?_
    obtain ⟨rfl, rfl⟩ := Prod.mk.inj (Option.some.inj h)
    exact g_retd C hr dX5_mean_50
  · have h := g_ff c2 h
    refine g_iload_n C 2 dX5_mean_27 rfl ?_
    refine g_aload_n C 0 dX5_mean_28 rfl ?_
    refine g_get (v := gr 43) C 0 1 (by omega) rfl rfl gu_5 (by decide) qf_X5_19 rfl dX5_mean_29 ?_
    refine g_iload_n C 3 dX5_mean_32 rfl ?_
    refine g_iconst (v := 2) C dX5_mean_33 (by decide) ?_
    obtain ⟨q4, eq4, h⟩ := g_bd h
    refine g_calliV C 43 [gi x3, gi 2] (kX3_fact hN eq4) qs_X5_60 (by omega) (by omega) rfl rfl rfl rfl (Nat.le_of_ble_eq_true rfl) ⟨Nat.zero_le _, Nat.zero_le _⟩ dX5_mean_34 ?_
    refine g_iadd C dX5_mean_37 ?_
    obtain ⟨v5, ev5, h⟩ := g_lt h
    refine g_topi ev5 ?_
    refine g_istore_n C dX5_mean_38 (by decide) rfl ?_
    obtain ⟨v6, ev6, h⟩ := g_lt h
    refine g_iinc C 3 dX5_mean_39 rfl ev6 (by decide) rfl ?_
    refine g_goto C dX5_mean_42 (tgt := 16) (by decide) ?_
    refine g_sub [2, 3, 1, 0] rfl ?_
    exact hK16 h

set_option maxHeartbeats 2000000 in
set_option maxRecDepth 20000 in
theorem wX5_mean_L16 (hN : 183 ≤ N) {A0 A' : gM} {r : UInt64} (C : gC p R s m args meth c cX5_mean RX5 4 D g (va_A (gw g ad ln A0 N) s.heap.size) 2) (hr : meth.sig.returnType = some .double)  : ∀ (f : Nat) {A : gM} {x1 : Int32} {x2 : Int32} {x3 : Int32}, mX5_mean_L16 f A x1 x2 x3 = some (A', r) → gJ p l e R s m args below meth c (gEd below D g N ad ln A0 A' r args s) 4 D g (va_A (gw g ad ln A0 N) s.heap.size) N ad ln A [(0, gr 0), (1, gi x1), (2, gi x2), (3, gi x3)] 0 0 16 []
  | 0, A, x1, x2, x3, h => by cases h
  | f + 1, A, x1, x2, x3, h => wX5_mean_b16 hN C hr (fun {A} {x1} {x2} {x3} h => wX5_mean_L16 hN C hr f h) h
set_option maxHeartbeats 2000000 in
set_option maxRecDepth 20000 in
theorem wX5_mean_b0 (hN : 183 ≤ N) {A0 A' : gM} {r : UInt64} (C : gC p R s m args meth c cX5_mean RX5 4 D g (va_A (gw g ad ln A0 N) s.heap.size) 2) (hr : meth.sig.returnType = some .double)  {A : gM} (h : mX5_mean_b0 A = some (A', r)) : gJ p l e R s m args below meth c (gEd below D g N ad ln A0 A' r args s) 4 D g (va_A (gw g ad ln A0 N) s.heap.size) N ad ln A [(0, gr 0)] 0 0 0 [] := by
  unfold mX5_mean_b0 at h
  refine g_aload_n C 0 dX5_mean_0 rfl ?_
  refine g_iconst (v := 1) C dX5_mean_1 (by decide) ?_
  obtain ⟨q1, eq1, h⟩ := g_bd h
  refine g_calliV C 0 [gi 1] (kX5_counted hN eq1) qs_X5_64 (by omega) (by omega) rfl rfl rfl rfl (Nat.le_of_ble_eq_true rfl) ⟨Nat.zero_le _, Nat.zero_le _⟩ dX5_mean_2 ?_
  refine g_istore_n C dX5_mean_5 (by decide) rfl ?_
  refine g_iload_n C 0 dX5_mean_6 rfl ?_
  refine g_if_ne C dX5_mean_7 (tgt := 12) (by decide) (fun c2 => ?_) (fun c2 => ?_)
  · have h := g_ff c2 h
    refine g_iconst (v := 0) C dX5_mean_12 (by decide) ?_
    refine g_istore_n C dX5_mean_13 (by decide) rfl ?_
    refine g_iconst (v := 0) C dX5_mean_14 (by decide) ?_
    refine g_istore_n C dX5_mean_15 (by decide) rfl ?_
    refine g_sub [3, 2, 1, 0] rfl ?_
    exact wX5_mean_L16 hN C hr gF h
  · have h := g_tt c2 h
    refine g_dconst0 C dX5_mean_10 ?_
    obtain ⟨rfl, rfl⟩ := Prod.mk.inj (Option.some.inj h)
    exact g_retd C hr dX5_mean_11

set_option maxHeartbeats 2000000 in
set_option maxRecDepth 20000 in
theorem kX5_mean {l : Launch} {D : va_G} {g : gT} {N : Nat} {ad ln : Nat → Nat} (hN : 183 ≤ N) {A A' : gM} {r : UInt64} (h : mX5_mean A = some (A', r)) : gKd l yX5_mean cX5_mean 4 (some .double) (2) D g N ad ln A [gr 0] A' r := by
  refine g_metd (by decide) (Nat.le_of_ble_eq_true rfl) ?_
  intro p e s m args below meth c C hr
  refine g_sub [0] rfl ?_
  exact wX5_mean_b0 hN C hr h
end MN

theorem dX6_mean_0 : decode cX6_mean 0 = .ok (.aload_n 0, 1) := by decide +kernel
theorem dX6_mean_1 : decode cX6_mean 1 = .ok (.iconst 0, 1) := by decide +kernel
theorem dX6_mean_2 : decode cX6_mean 2 = .ok (.putfield 35, 3) := by decide +kernel
theorem dX6_mean_5 : decode cX6_mean 5 = .ok (.iconst 0, 1) := by decide +kernel
theorem dX6_mean_6 : decode cX6_mean 6 = .ok (.istore_n 1, 1) := by decide +kernel
theorem dX6_mean_7 : decode cX6_mean 7 = .ok (.iconst 0, 1) := by decide +kernel
theorem dX6_mean_8 : decode cX6_mean 8 = .ok (.istore_n 2, 1) := by decide +kernel
theorem dX6_mean_9 : decode cX6_mean 9 = .ok (.iconst 0, 1) := by decide +kernel
theorem dX6_mean_10 : decode cX6_mean 10 = .ok (.istore_n 3, 1) := by decide +kernel
theorem dX6_mean_11 : decode cX6_mean 11 = .ok (.iload_n 3, 1) := by decide +kernel
theorem dX6_mean_12 : decode cX6_mean 12 = .ok (.aload_n 0, 1) := by decide +kernel
theorem dX6_mean_13 : decode cX6_mean 13 = .ok (.getfield 39, 3) := by decide +kernel
theorem dX6_mean_16 : decode cX6_mean 16 = .ok (.if_icmp .ge 34, 3) := by decide +kernel
theorem dX6_mean_19 : decode cX6_mean 19 = .ok (.aload_n 0, 1) := by decide +kernel
theorem dX6_mean_20 : decode cX6_mean 20 = .ok (.iload_n 3, 1) := by decide +kernel
theorem dX6_mean_21 : decode cX6_mean 21 = .ok (.invokevirtual 205, 3) := by decide +kernel
theorem dX6_mean_24 : decode cX6_mean 24 = .ok (.istore 4, 2) := by decide +kernel
theorem dX6_mean_26 : decode cX6_mean 26 = .ok (.iload_n 1, 1) := by decide +kernel
theorem dX6_mean_27 : decode cX6_mean 27 = .ok (.iload 4, 2) := by decide +kernel
theorem dX6_mean_29 : decode cX6_mean 29 = .ok (.iadd, 1) := by decide +kernel
theorem dX6_mean_30 : decode cX6_mean 30 = .ok (.istore_n 1, 1) := by decide +kernel
theorem dX6_mean_31 : decode cX6_mean 31 = .ok (.iload_n 2, 1) := by decide +kernel
theorem dX6_mean_32 : decode cX6_mean 32 = .ok (.iload 4, 2) := by decide +kernel
theorem dX6_mean_34 : decode cX6_mean 34 = .ok (.ifCond .le 7, 3) := by decide +kernel
theorem dX6_mean_37 : decode cX6_mean 37 = .ok (.iconst 1, 1) := by decide +kernel
theorem dX6_mean_38 : decode cX6_mean 38 = .ok (.goto 4, 3) := by decide +kernel
theorem dX6_mean_41 : decode cX6_mean 41 = .ok (.iconst 0, 1) := by decide +kernel
theorem dX6_mean_42 : decode cX6_mean 42 = .ok (.iadd, 1) := by decide +kernel
theorem dX6_mean_43 : decode cX6_mean 43 = .ok (.istore_n 2, 1) := by decide +kernel
theorem dX6_mean_44 : decode cX6_mean 44 = .ok (.iinc 3 1, 3) := by decide +kernel
theorem dX6_mean_47 : decode cX6_mean 47 = .ok (.goto (-36), 3) := by decide +kernel
theorem dX6_mean_50 : decode cX6_mean 50 = .ok (.iload_n 2, 1) := by decide +kernel
theorem dX6_mean_51 : decode cX6_mean 51 = .ok (.ifCond .ne 7, 3) := by decide +kernel
theorem dX6_mean_54 : decode cX6_mean 54 = .ok (.dconst 0, 1) := by decide +kernel
theorem dX6_mean_55 : decode cX6_mean 55 = .ok (.goto 8, 3) := by decide +kernel
theorem dX6_mean_58 : decode cX6_mean 58 = .ok (.iload_n 1, 1) := by decide +kernel
theorem dX6_mean_59 : decode cX6_mean 59 = .ok (.i2d, 1) := by decide +kernel
theorem dX6_mean_60 : decode cX6_mean 60 = .ok (.iload_n 2, 1) := by decide +kernel
theorem dX6_mean_61 : decode cX6_mean 61 = .ok (.i2d, 1) := by decide +kernel
theorem dX6_mean_62 : decode cX6_mean 62 = .ok (.ddiv, 1) := by decide +kernel
theorem dX6_mean_63 : decode cX6_mean 63 = .ok (.dreturn, 1) := by decide +kernel
section MN2
variable {p : Program} {l : Launch} {e : Env} {R : Room} {s : State} {m : MethodId} {args : Array Value} {below : List Frame} {meth : Method} {c : Code} {D : va_G} {g : gT} {N : Nat} {ad ln ad0 ln0 : Nat → Nat}
def mX6_mean_b63 (N cp k n : Nat) (A : gM) (s0 : UInt64) : Option (gM × (Nat × Nat × Nat) × UInt64) :=
  some (A, (cp, k, n), s0)
def mX6_mean_b42 (N cp k n : Nat) (K11 : Nat → Nat → Nat → gM → Int32 → Int32 → Int32 → Option (gM × (Nat × Nat × Nat) × UInt64)) (A : gM) (x1 : Int32) (x3 : Int32) (s0 : Int32) (s1 : Int32) : Option (gM × (Nat × Nat × Nat) × UInt64) :=
  g_let (s0 + s1) fun v1 =>
  g_let (x3 + 1) fun v2 =>
  K11 cp k n A x1 v1 v2
def mX6_mean_b24 (N cp k n : Nat) (K11 : Nat → Nat → Nat → gM → Int32 → Int32 → Int32 → Option (gM × (Nat × Nat × Nat) × UInt64)) (A : gM) (x1 : Int32) (x2 : Int32) (x3 : Int32) (s0 : Int32) : Option (gM × (Nat × Nat × Nat) × UInt64) :=
  g_let (x1 + s0) fun v1 =>
  if s0 ≤ 0 then
  mX6_mean_b42 N cp k n K11 A v1 x3 x2 0
  else
  mX6_mean_b42 N cp k n K11 A v1 x3 x2 1
def mX6_mean_b11 (N cp k n : Nat) (K11 : Nat → Nat → Nat → gM → Int32 → Int32 → Int32 → Option (gM × (Nat × Nat × Nat) × UInt64)) (A : gM) (x1 : Int32) (x2 : Int32) (x3 : Int32) : Option (gM × (Nat × Nat × Nat) × UInt64) :=
  if (A 183 1) ≤ x3 then
  if x2 = 0 then
  mX6_mean_b63 N cp k n A 0
  else
  if ¬ x2 = (0 : Int32) then
  mX6_mean_b63 N cp k n A (FP.ddiv (FP.i2d x1) (FP.i2d x2))
  else none
  else
  (mX6_length N cp A x3).bind fun q4 =>
  mX6_mean_b24 N q4.2.1.1 (k + q4.2.1.2.1) (n + q4.2.1.2.2) K11 q4.1 x1 x2 x3 q4.2.2
def mX6_mean_L11 (N : Nat) : Nat → Nat → Nat → Nat → gM → Int32 → Int32 → Int32 → Option (gM × (Nat × Nat × Nat) × UInt64)
  | 0 => fun _ _ _ _ _ _ _ => none
  | f + 1 => fun cp k n => mX6_mean_b11 N cp k n (mX6_mean_L11 N f)
def mX6_mean_b0 (N cp k n : Nat) (A : gM) : Option (gM × (Nat × Nat × Nat) × UInt64) :=
  g_let (g_up A 183 0 0) fun A1 =>
  mX6_mean_L11 N gF cp k n A1 0 0 0
def mX6_mean (N cp : Nat) (A : gM) : Option (gM × (Nat × Nat × Nat) × UInt64) := mX6_mean_b0 N cp 0 0 A
set_option maxHeartbeats 2000000 in
set_option maxRecDepth 20000 in
theorem oX6_mean_b63 {N : Nat} {A' : gM} {u : Nat × Nat × Nat} {r : UInt64}  {cp k n : Nat} {A : gM} {s0 : UInt64} (h : mX6_mean_b63 N cp k n A s0 = some (A', u, r)) : k ≤ u.2.1 ∧ n ≤ u.2.2 := by
  unfold mX6_mean_b63 at h
  obtain ⟨rfl, h2⟩ := Prod.mk.inj (Option.some.inj h)
  obtain ⟨rfl, rfl⟩ := Prod.mk.inj h2
  exact ⟨Nat.le_refl _, Nat.le_refl _⟩

set_option maxHeartbeats 2000000 in
set_option maxRecDepth 20000 in
theorem wX6_mean_b63 (hN : 193 ≤ N)  {A0 A' : gM} {u : Nat × Nat × Nat} {r : UInt64} (C : gC p (g_rmx 1513 u.2.1 u.2.2) s m args meth c cX6_mean RX6 5 D g (va_A (gw g ad0 ln0 A0 N) s.heap.size) 1513) (hr : meth.sig.returnType = some .double)  {cp k n : Nat} (hch : g_chg N ad0 ln0 ad ln cp) {A : gM} {s0 : UInt64} (h : mX6_mean_b63 N cp k n A s0 = some (A', u, r)) : gJ p l e (g_rmx 1513 u.2.1 u.2.2) s m args below meth c (gEAd below D g N ad0 ln0 A0 A' u r args s) 5 D g (va_A (gw g ad0 ln0 A0 N) s.heap.size) N ad ln A [] k n 63 [gd s0] := by
  have hkn := oX6_mean_b63 h
  unfold mX6_mean_b63 at h
  obtain ⟨rfl, h2⟩ := Prod.mk.inj (Option.some.inj h)
  obtain ⟨rfl, rfl⟩ := Prod.mk.inj h2
  exact g_retAd C hch hr dX6_mean_63

set_option maxHeartbeats 2000000 in
set_option maxRecDepth 20000 in
theorem oX6_mean_b42 {N : Nat} {A' : gM} {u : Nat × Nat × Nat} {r : UInt64} {K11 : Nat → Nat → Nat → gM → Int32 → Int32 → Int32 → Option (gM × (Nat × Nat × Nat) × UInt64)} (oK11 : ∀ {cp k n : Nat} {A : gM} {x1 : Int32} {x2 : Int32} {x3 : Int32}, K11 cp k n A x1 x2 x3 = some (A', u, r) → k ≤ u.2.1 ∧ n ≤ u.2.2) {cp k n : Nat} {A : gM} {x1 : Int32} {x3 : Int32} {s0 : Int32} {s1 : Int32} (h : mX6_mean_b42 N cp k n K11 A x1 x3 s0 s1 = some (A', u, r)) : k ≤ u.2.1 ∧ n ≤ u.2.2 := by
  unfold mX6_mean_b42 at h
  obtain ⟨v1, ev1, h⟩ := g_lt h
  obtain ⟨v2, ev2, h⟩ := g_lt h
  exact oK11 h

set_option maxHeartbeats 2000000 in
set_option maxRecDepth 20000 in
theorem wX6_mean_b42 (hN : 193 ≤ N)  {A0 A' : gM} {u : Nat × Nat × Nat} {r : UInt64} (C : gC p (g_rmx 1513 u.2.1 u.2.2) s m args meth c cX6_mean RX6 5 D g (va_A (gw g ad0 ln0 A0 N) s.heap.size) 1513) (hr : meth.sig.returnType = some .double) {K11 : Nat → Nat → Nat → gM → Int32 → Int32 → Int32 → Option (gM × (Nat × Nat × Nat) × UInt64)} (hK11 : ∀ {ad ln : Nat → Nat} {cp k n : Nat} (_ : g_chg N ad0 ln0 ad ln cp) {A : gM} {x1 : Int32} {x2 : Int32} {x3 : Int32}, K11 cp k n A x1 x2 x3 = some (A', u, r) → gJ p l e (g_rmx 1513 u.2.1 u.2.2) s m args below meth c (gEAd below D g N ad0 ln0 A0 A' u r args s) 5 D g (va_A (gw g ad0 ln0 A0 N) s.heap.size) N ad ln A [(0, gr 183), (1, gi x1), (2, gi x2), (3, gi x3)] k n 11 []) (oK11 : ∀ {cp k n : Nat} {A : gM} {x1 : Int32} {x2 : Int32} {x3 : Int32}, K11 cp k n A x1 x2 x3 = some (A', u, r) → k ≤ u.2.1 ∧ n ≤ u.2.2) {cp k n : Nat} (hch : g_chg N ad0 ln0 ad ln cp) {A : gM} {x1 : Int32} {x3 : Int32} {s0 : Int32} {s1 : Int32} (h : mX6_mean_b42 N cp k n K11 A x1 x3 s0 s1 = some (A', u, r)) : gJ p l e (g_rmx 1513 u.2.1 u.2.2) s m args below meth c (gEAd below D g N ad0 ln0 A0 A' u r args s) 5 D g (va_A (gw g ad0 ln0 A0 N) s.heap.size) N ad ln A [(0, gr 183), (1, gi x1), (3, gi x3)] k n 42 [gi s1, gi s0] := by
  have hkn := oX6_mean_b42 oK11 h
  unfold mX6_mean_b42 at h
  refine g_iadd C dX6_mean_42 ?_
  obtain ⟨v1, ev1, h⟩ := g_lt h
  refine g_topi ev1 ?_
  refine g_istore_n C dX6_mean_43 (by decide) rfl ?_
  obtain ⟨v2, ev2, h⟩ := g_lt h
  refine g_iinc C 3 dX6_mean_44 rfl ev2 (by decide) rfl ?_
  refine g_goto C dX6_mean_47 (tgt := 11) (by decide) ?_
  refine g_sub [2, 3, 1, 0] rfl ?_
  exact hK11 hch h

set_option maxHeartbeats 2000000 in
set_option maxRecDepth 20000 in
theorem oX6_mean_b24 {N : Nat} {A' : gM} {u : Nat × Nat × Nat} {r : UInt64} {K11 : Nat → Nat → Nat → gM → Int32 → Int32 → Int32 → Option (gM × (Nat × Nat × Nat) × UInt64)} (oK11 : ∀ {cp k n : Nat} {A : gM} {x1 : Int32} {x2 : Int32} {x3 : Int32}, K11 cp k n A x1 x2 x3 = some (A', u, r) → k ≤ u.2.1 ∧ n ≤ u.2.2) {cp k n : Nat} {A : gM} {x1 : Int32} {x2 : Int32} {x3 : Int32} {s0 : Int32} (h : mX6_mean_b24 N cp k n K11 A x1 x2 x3 s0 = some (A', u, r)) : k ≤ u.2.1 ∧ n ≤ u.2.2 := by
  unfold mX6_mean_b24 at h
  obtain ⟨v1, ev1, h⟩ := g_lt h
  by_cases c2 : s0 ≤ 0
  · have h := g_tt c2 h
    exact oX6_mean_b42 oK11 h
  · have h := g_ff c2 h
    exact oX6_mean_b42 oK11 h

set_option maxHeartbeats 2000000 in
set_option maxRecDepth 20000 in
theorem wX6_mean_b24 (hN : 193 ≤ N)  {A0 A' : gM} {u : Nat × Nat × Nat} {r : UInt64} (C : gC p (g_rmx 1513 u.2.1 u.2.2) s m args meth c cX6_mean RX6 5 D g (va_A (gw g ad0 ln0 A0 N) s.heap.size) 1513) (hr : meth.sig.returnType = some .double) {K11 : Nat → Nat → Nat → gM → Int32 → Int32 → Int32 → Option (gM × (Nat × Nat × Nat) × UInt64)} (hK11 : ∀ {ad ln : Nat → Nat} {cp k n : Nat} (_ : g_chg N ad0 ln0 ad ln cp) {A : gM} {x1 : Int32} {x2 : Int32} {x3 : Int32}, K11 cp k n A x1 x2 x3 = some (A', u, r) → gJ p l e (g_rmx 1513 u.2.1 u.2.2) s m args below meth c (gEAd below D g N ad0 ln0 A0 A' u r args s) 5 D g (va_A (gw g ad0 ln0 A0 N) s.heap.size) N ad ln A [(0, gr 183), (1, gi x1), (2, gi x2), (3, gi x3)] k n 11 []) (oK11 : ∀ {cp k n : Nat} {A : gM} {x1 : Int32} {x2 : Int32} {x3 : Int32}, K11 cp k n A x1 x2 x3 = some (A', u, r) → k ≤ u.2.1 ∧ n ≤ u.2.2) {cp k n : Nat} (hch : g_chg N ad0 ln0 ad ln cp) {A : gM} {x1 : Int32} {x2 : Int32} {x3 : Int32} {s0 : Int32} (h : mX6_mean_b24 N cp k n K11 A x1 x2 x3 s0 = some (A', u, r)) : gJ p l e (g_rmx 1513 u.2.1 u.2.2) s m args below meth c (gEAd below D g N ad0 ln0 A0 A' u r args s) 5 D g (va_A (gw g ad0 ln0 A0 N) s.heap.size) N ad ln A [(0, gr 183), (1, gi x1), (2, gi x2), (3, gi x3)] k n 24 [gi s0] := by
  have hkn := oX6_mean_b24 oK11 h
  unfold mX6_mean_b24 at h
  refine g_istore C dX6_mean_24 (by decide) rfl ?_
  refine g_iload_n C 2 dX6_mean_26 rfl ?_
  refine g_iload C 0 dX6_mean_27 rfl ?_
  refine g_iadd C dX6_mean_29 ?_
  obtain ⟨v1, ev1, h⟩ := g_lt h
  refine g_topi ev1 ?_
  refine g_istore_n C dX6_mean_30 (by decide) rfl ?_
  refine g_iload_n C 3 dX6_mean_31 rfl ?_
  refine g_iload C 1 dX6_mean_32 rfl ?_
  refine g_if_le C dX6_mean_34 (tgt := 41) (by decide) (fun c2 => ?_) (fun c2 => ?_)
  · have h := g_tt c2 h
    refine g_iconst (v := 0) C dX6_mean_41 (by decide) ?_
    refine g_sub [2, 0, 4] rfl ?_
    exact wX6_mean_b42 hN C hr hK11 oK11 hch h
  · have h := g_ff c2 h
    refine g_iconst (v := 1) C dX6_mean_37 (by decide) ?_
    refine g_goto C dX6_mean_38 (tgt := 42) (by decide) ?_
    refine g_sub [2, 0, 4] rfl ?_
    exact wX6_mean_b42 hN C hr hK11 oK11 hch h

set_option maxHeartbeats 2000000 in
set_option maxRecDepth 20000 in
theorem oX6_mean_b11 {N : Nat} {A' : gM} {u : Nat × Nat × Nat} {r : UInt64} {K11 : Nat → Nat → Nat → gM → Int32 → Int32 → Int32 → Option (gM × (Nat × Nat × Nat) × UInt64)} (oK11 : ∀ {cp k n : Nat} {A : gM} {x1 : Int32} {x2 : Int32} {x3 : Int32}, K11 cp k n A x1 x2 x3 = some (A', u, r) → k ≤ u.2.1 ∧ n ≤ u.2.2) {cp k n : Nat} {A : gM} {x1 : Int32} {x2 : Int32} {x3 : Int32} (h : mX6_mean_b11 N cp k n K11 A x1 x2 x3 = some (A', u, r)) : k ≤ u.2.1 ∧ n ≤ u.2.2 := by
  unfold mX6_mean_b11 at h
  by_cases c1 : (A 183 1) ≤ x3
  · have h := g_tt c1 h
    by_cases c2 : x2 = 0
    · have h := g_tt c2 h
      exact oX6_mean_b63 h
    · have h := g_ff c2 h
      obtain ⟨hg3, h⟩ := g_gd h
      exact oX6_mean_b63 h
  · have h := g_ff c1 h
    obtain ⟨q4, eq4, h⟩ := g_bd h
    have mo := oX6_mean_b24 oK11 h
    exact ⟨by omega, by omega⟩

set_option maxHeartbeats 2000000 in
set_option maxRecDepth 20000 in
theorem wX6_mean_b11 (hN : 193 ≤ N)  {A0 A' : gM} {u : Nat × Nat × Nat} {r : UInt64} (C : gC p (g_rmx 1513 u.2.1 u.2.2) s m args meth c cX6_mean RX6 5 D g (va_A (gw g ad0 ln0 A0 N) s.heap.size) 1513) (hr : meth.sig.returnType = some .double) {K11 : Nat → Nat → Nat → gM → Int32 → Int32 → Int32 → Option (gM × (Nat × Nat × Nat) × UInt64)} (hK11 : ∀ {ad ln : Nat → Nat} {cp k n : Nat} (_ : g_chg N ad0 ln0 ad ln cp) {A : gM} {x1 : Int32} {x2 : Int32} {x3 : Int32}, K11 cp k n A x1 x2 x3 = some (A', u, r) → gJ p l e (g_rmx 1513 u.2.1 u.2.2) s m args below meth c (gEAd below D g N ad0 ln0 A0 A' u r args s) 5 D g (va_A (gw g ad0 ln0 A0 N) s.heap.size) N ad ln A [(0, gr 183), (1, gi x1), (2, gi x2), (3, gi x3)] k n 11 []) (oK11 : ∀ {cp k n : Nat} {A : gM} {x1 : Int32} {x2 : Int32} {x3 : Int32}, K11 cp k n A x1 x2 x3 = some (A', u, r) → k ≤ u.2.1 ∧ n ≤ u.2.2) {cp k n : Nat} (hch : g_chg N ad0 ln0 ad ln cp) {A : gM} {x1 : Int32} {x2 : Int32} {x3 : Int32} (h : mX6_mean_b11 N cp k n K11 A x1 x2 x3 = some (A', u, r)) : gJ p l e (g_rmx 1513 u.2.1 u.2.2) s m args below meth c (gEAd below D g N ad0 ln0 A0 A' u r args s) 5 D g (va_A (gw g ad0 ln0 A0 N) s.heap.size) N ad ln A [(0, gr 183), (1, gi x1), (2, gi x2), (3, gi x3)] k n 11 [] := by
  have hkn := oX6_mean_b11 oK11 h
  unfold mX6_mean_b11 at h
  refine g_iload_n C 3 dX6_mean_11 rfl ?_
  refine g_aload_n C 0 dX6_mean_12 rfl ?_
  refine g_get (v := gi (A 183 1)) C 183 1 (by omega) rfl rfl gu_6 (by decide) qf_X6_39 rfl dX6_mean_13 ?_
  refine g_icmp_ge C dX6_mean_16 (tgt := 50) (by decide) (fun c1 => ?_) (fun c1 => ?_)
  · have h := g_tt c1 h
    refine g_iload_n C 2 dX6_mean_50 rfl ?_
    refine g_if_ne C dX6_mean_51 (tgt := 58) (by decide) (fun c2 => ?_) (fun c2 => ?_)
    · have h := g_ff c2 h
      refine g_iload_n C 1 dX6_mean_58 rfl ?_
      refine g_i2d C dX6_mean_59 ?_
      refine g_iload_n C 2 dX6_mean_60 rfl ?_
      refine g_i2d C dX6_mean_61 ?_
      obtain ⟨hg3, h⟩ := g_gd h
      refine g_ddiv C hg3 dX6_mean_62 ?_
      refine g_sub [] rfl ?_
      exact wX6_mean_b63 hN C hr hch h
    · have h := g_tt c2 h
      refine g_dconst0 C dX6_mean_54 ?_
      refine g_goto C dX6_mean_55 (tgt := 63) (by decide) ?_
      refine g_sub [] rfl ?_
      exact wX6_mean_b63 hN C hr hch h
  · have h := g_ff c1 h
    refine g_aload_n C 0 dX6_mean_19 rfl ?_
    refine g_iload_n C 3 dX6_mean_20 rfl ?_
    obtain ⟨q4, eq4, h⟩ := g_bd h
    have mo := oX6_mean_b24 oK11 h
    refine g_callAiV C 183 [gi x3] (kX6_length hN hch.2 eq4) qs_X6_205 (by omega) (by omega) rfl rfl rfl rfl (Nat.le_of_ble_eq_true rfl) ⟨mo.1, mo.2⟩ (And.intro ⟨by omega, by omega⟩ True.intro) True.intro dX6_mean_21 (fun ad1 ln1 hch1 => ?_)
    have hch := g_chg.trans (by omega) hch hch1
    refine g_sub [0, 1, 2, 3] rfl ?_
    exact wX6_mean_b24 hN C hr hK11 oK11 hch h

set_option maxHeartbeats 2000000 in
set_option maxRecDepth 20000 in
theorem oX6_mean_L11 {N : Nat} {A' : gM} {u : Nat × Nat × Nat} {r : UInt64}  : ∀ (f : Nat) {cp k n : Nat} {A : gM} {x1 : Int32} {x2 : Int32} {x3 : Int32}, mX6_mean_L11 N f cp k n A x1 x2 x3 = some (A', u, r) → k ≤ u.2.1 ∧ n ≤ u.2.2
  | 0, _, _, _, A, x1, x2, x3, h => by cases h
  | f + 1, cp, k, n, A, x1, x2, x3, h => oX6_mean_b11 (K11 := mX6_mean_L11 N f) (fun h => oX6_mean_L11 f h) h
set_option maxHeartbeats 2000000 in
set_option maxRecDepth 20000 in
theorem wX6_mean_L11 (hN : 193 ≤ N)  {A0 A' : gM} {u : Nat × Nat × Nat} {r : UInt64} (C : gC p (g_rmx 1513 u.2.1 u.2.2) s m args meth c cX6_mean RX6 5 D g (va_A (gw g ad0 ln0 A0 N) s.heap.size) 1513) (hr : meth.sig.returnType = some .double)  : ∀ (f : Nat) {ad ln : Nat → Nat} {cp k n : Nat} (_ : g_chg N ad0 ln0 ad ln cp) {A : gM} {x1 : Int32} {x2 : Int32} {x3 : Int32}, mX6_mean_L11 N f cp k n A x1 x2 x3 = some (A', u, r) → gJ p l e (g_rmx 1513 u.2.1 u.2.2) s m args below meth c (gEAd below D g N ad0 ln0 A0 A' u r args s) 5 D g (va_A (gw g ad0 ln0 A0 N) s.heap.size) N ad ln A [(0, gr 183), (1, gi x1), (2, gi x2), (3, gi x3)] k n 11 []
  | 0, ad, ln, cp, k, n, hch, A, x1, x2, x3, h => by cases h
  | f + 1, ad, ln, cp, k, n, hch, A, x1, x2, x3, h => wX6_mean_b11 (K11 := mX6_mean_L11 N f) hN C hr (fun {ad ln} {cp k n} hch {A} {x1} {x2} {x3} h => wX6_mean_L11 hN C hr f hch h) (fun h => oX6_mean_L11 f h) hch h
set_option maxHeartbeats 2000000 in
set_option maxRecDepth 20000 in
theorem oX6_mean_b0 {N : Nat} {A' : gM} {u : Nat × Nat × Nat} {r : UInt64}  {cp k n : Nat} {A : gM} (h : mX6_mean_b0 N cp k n A = some (A', u, r)) : k ≤ u.2.1 ∧ n ≤ u.2.2 := by
  unfold mX6_mean_b0 at h
  obtain ⟨A1, eA1, h⟩ := g_lt h
  exact oX6_mean_L11 gF h

set_option maxHeartbeats 2000000 in
set_option maxRecDepth 20000 in
theorem wX6_mean_b0 (hN : 193 ≤ N)  {A0 A' : gM} {u : Nat × Nat × Nat} {r : UInt64} (C : gC p (g_rmx 1513 u.2.1 u.2.2) s m args meth c cX6_mean RX6 5 D g (va_A (gw g ad0 ln0 A0 N) s.heap.size) 1513) (hr : meth.sig.returnType = some .double)  {cp k n : Nat} (hch : g_chg N ad0 ln0 ad ln cp) {A : gM} (h : mX6_mean_b0 N cp k n A = some (A', u, r)) : gJ p l e (g_rmx 1513 u.2.1 u.2.2) s m args below meth c (gEAd below D g N ad0 ln0 A0 A' u r args s) 5 D g (va_A (gw g ad0 ln0 A0 N) s.heap.size) N ad ln A [(0, gr 183)] k n 0 [] := by
  have hkn := oX6_mean_b0 h
  unfold mX6_mean_b0 at h
  refine g_aload_n C 0 dX6_mean_0 rfl ?_
  refine g_iconst (v := 0) C dX6_mean_1 (by decide) ?_
  obtain ⟨A1, eA1, h⟩ := g_lt h
  refine g_put C 183 0 tyX6 tyX6_ok nmX6 (by omega) rfl rfl gu_6 (by decide) qf_X6_35 rfl (by decide +kernel) (Nat.le_of_ble_eq_true rfl) rfl eA1 dX6_mean_2 ?_
  refine g_iconst (v := 0) C dX6_mean_5 (by decide) ?_
  refine g_istore_n C dX6_mean_6 (by decide) rfl ?_
  refine g_iconst (v := 0) C dX6_mean_7 (by decide) ?_
  refine g_istore_n C dX6_mean_8 (by decide) rfl ?_
  refine g_iconst (v := 0) C dX6_mean_9 (by decide) ?_
  refine g_istore_n C dX6_mean_10 (by decide) rfl ?_
  refine g_sub [3, 2, 1, 0] rfl ?_
  exact wX6_mean_L11 hN C hr gF hch h

set_option maxHeartbeats 2000000 in
set_option maxRecDepth 20000 in
theorem kX6_mean {l : Launch} {D : va_G} {g : gT} {N : Nat} (hN : 193 ≤ N) {ad ln : Nat → Nat} {cp : Nat} (hcp : g_cap ln cp) {A A' : gM} {u : Nat × Nat × Nat} {r : UInt64} (h : mX6_mean N cp A = some (A', u, r)) : gAd l yX6_mean cX6_mean 5 (some .double) (1513) D g N ad ln A [gr 183] A' u r := by
  refine g_metAd (by decide) (Nat.le_of_ble_eq_true rfl) ?_
  intro p e s m args below meth c C hr
  refine g_sub [0] rfl ?_
  exact wX6_mean_b0 hN C hr (g_chg.rf hcp) h
end MN2
