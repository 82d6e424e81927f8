/-! NUMBERS FOR SIMP: each with what it wants, so that omega finds it -/
theorem lq2 : (2 : Int32) = nI 2 := by decide +kernel
theorem lq3 : (3 : Int32) = nI 3 := by decide +kernel
theorem lq4 : (4 : Int32) = nI 4 := by decide +kernel
theorem lq5 : (5 : Int32) = nI 5 := by decide +kernel
theorem lq6 : (6 : Int32) = nI 6 := by decide +kernel
theorem lq7 : (7 : Int32) = nI 7 := by decide +kernel
theorem lq8 : (8 : Int32) = nI 8 := by decide +kernel
theorem lq9 : (9 : Int32) = nI 9 := by decide +kernel
theorem lq10 : (10 : Int32) = nI 10 := by decide +kernel
theorem lq11 : (11 : Int32) = nI 11 := by decide +kernel
theorem lq40 : (40 : Int32) = nI 40 := by decide +kernel
theorem lq59 : (59 : Int32) = nI 59 := by decide +kernel
theorem lq60 : (60 : Int32) = nI 60 := by decide +kernel
theorem lq61 : (61 : Int32) = nI 61 := by decide +kernel
theorem lq100 : (100 : Int32) = nI 100 := by decide +kernel
theorem lq500 : (500 : Int32) = nI 500 := by decide +kernel
theorem lq2600 : (2600 : Int32) = nI 2600 := by decide +kernel
theorem lq5208 : (5208 : Int32) = nI 5208 := by decide +kernel
theorem lq1000000 : (1000000 : Int32) = nI 1000000 := by decide +kernel
theorem one_nI : (1 : Int32) = nI 1 := by decide +kernel
theorem ltT {a b : Nat} (h : a < b) (hb : b ≤ 2000000) : (nI a < nI b) = True := eq_true (nI_lt h (by omega))
theorem ltF {a b : Nat} (h : b ≤ a) (ha : a ≤ 2000000) : (nI a < nI b) = False := eq_false (nI_nlt h (by omega))
theorem leT {a b : Nat} (h : a ≤ b) (hb : b ≤ 2000000) : (nI a ≤ nI b) = True := eq_true (nI_le h (by omega))
theorem leF {a b : Nat} (h : b < a) (ha : a ≤ 2000000) : (nI a ≤ nI b) = False := eq_false (nI_ge h (by omega))
theorem eqT {a b : Nat} (h : a = b) : (nI a = nI b) = True := eq_true (congrArg nI h)
theorem eqF {a b : Nat} (h : a ≠ b) (ha : a ≤ 2000000) (hb : b ≤ 2000000) : (nI a = nI b) = False := eq_false (fun q => h ((nI_eq (by omega) (by omega)).mp q))
theorem lt0F {a : Nat} (ha : a ≤ 2000000) : (nI a < 0) = False := eq_false (nI_pos (by omega))
theorem le0F {a : Nat} (h : 0 < a) (ha : a ≤ 2000000) : (nI a ≤ 0) = False := eq_false (nI_nle h (by omega))
theorem le0T {a : Nat} (h : a = 0) : (nI a ≤ 0) = True := by subst h; exact eq_true (by decide)
theorem ge0T {a : Nat} (ha : a ≤ 2000000) : (0 ≤ nI a) = True := eq_true (nI_pos' (by omega))
theorem eq0T {a : Nat} (h : a = 0) : (nI a = 0) = True := by subst h; exact eq_true rfl
theorem eq0F {a : Nat} (h : 0 < a) (ha : a ≤ 2000000) : (nI a = 0) = False := eq_false (nI_ne0 h (by omega))
theorem eqm1F {a : Nat} (ha : a ≤ 2000000) : (nI a = -1) = False := eq_false (fun q => nI_pos (n := a) (by omega) (by rw [q]; decide))
theorem m1lt0 : ((-1 : Int32) < 0) = True := eq_true (by decide)
theorem ten0 : ((1 : Int32) = 0) = False := eq_false (by decide)
theorem sub1 {k : Nat} (h : 1 ≤ k) : nI k - 1 = nI (k - 1) := by
  have := nI_pred (k - 1); rw [show k - 1 + 1 = k by omega] at this; exact this
theorem addm1 {k : Nat} (h : 1 ≤ k) : nI k + (-1) = nI (k - 1) := by rw [← sub1 h, Int32.sub_eq_add_neg]
theorem subn {a b : Nat} (h : b ≤ a) : nI a - nI b = nI (a - b) := by
  have e : nI a = nI (a - b) + nI b := by rw [nI_add, Nat.sub_add_cancel h]
  rw [e, Int32.add_sub_cancel]
theorem addm2 {k : Nat} (h : 2 ≤ k) : nI k + (-nI 2) = nI (k - 2) := by rw [← subn h, Int32.sub_eq_add_neg]
theorem cl0 : (0 : Int32).toNatClampNeg = 0 := by decide
theorem cl1 : (1 : Int32).toNatClampNeg = 1 := by decide
theorem ginT {n N : Nat} (h : n < N) (hN : N ≤ 20000) : g_in (nI n) N = true := gin h hN
theorem gin0 {N : Nat} (h : 0 < N) (hN : N ≤ 20000) : g_in 0 N = true := gin (n := 0) h hN
theorem gin1 {N : Nat} (h : 1 < N) (hN : N ≤ 20000) : g_in 1 N = true := gin (n := 1) h hN
theorem upS {A : gM} {i j a b : Nat} {v : Int32} (h1 : a = i) (h2 : b = j) : g_up A i j v a b = v := by subst h1; subst h2; exact up_s
theorem nI0 : nI 0 = 0 := by decide +kernel
theorem gle {α β : Type} {v : α} {f : α → β} : g_let v f = f v := Eq.trans (Eq.trans rfl rfl) rfl
theorem obe {α β : Type} {v : α} {f : α → Option β} : (some v).bind f = f v := Eq.trans (Eq.trans rfl rfl) rfl
