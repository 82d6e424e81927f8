/-! BUILDING A TYPE FROM A ROW -/
theorem tk_inj : ∀ (r : Rw) (m n j : Nat), tk m r = some j → tk n r = some j → m = n
  | [], m, n, j, h1, h2 => by simp [tk] at h1 h2; omega
  | c :: r, 0, n, j, h1, _ => by simp [tk] at h1
  | c :: r, m + 1, 0, j, _, h2 => by simp [tk] at h2
  | c :: r, m + 1, n + 1, j, h1, h2 => by
    have := tk_inj r (m + ar c) (n + ar c) j h1 h2
    omega
/-- what a row of codes stands for: seats are variables of their own, nodes what they are now -/
def exR (g : Nat → Nat) (T : Nat → Rw) (R : Rw) : Rw := R.flatMap fun c => if c < 10 then [c] else if c < 100 then [100 + g (c - 10)] else T (c - 100)
theorem exR_nil {g : Nat → Nat} {T : Nat → Rw} : exR g T [] = [] := rfl
theorem exR_cons {g : Nat → Nat} {T : Nat → Rw} {c : Nat} {R : Rw} : exR g T (c :: R) = (if c < 10 then [c] else if c < 100 then [100 + g (c - 10)] else T (c - 100)) ++ exR g T R := by simp [exR]
theorem exR_cg {g g' : Nat → Nat} {T T' : Nat → Rw} : ∀ {R : Rw}, (∀ c ∈ R, 10 ≤ c → c < 100 → g (c - 10) = g' (c - 10)) → (∀ c ∈ R, 100 ≤ c → T (c - 100) = T' (c - 100)) → exR g T R = exR g' T' R
  | [], _, _ => rfl
  | c :: R, h1, h2 => by
    rw [exR_cons, exR_cons, exR_cg (fun d hd => h1 d (List.mem_cons_of_mem _ hd)) (fun d hd => h2 d (List.mem_cons_of_mem _ hd))]
    congr 1
    by_cases q : c < 10
    · rw [if_pos q, if_pos q]
    · rw [if_neg q, if_neg q]
      by_cases q2 : c < 100
      · rw [if_pos q2, if_pos q2, h1 c List.mem_cons_self (by omega) q2]
      · rw [if_neg q2, if_neg q2, h2 c List.mem_cons_self (by omega)]
/-- two memories but for the work of building -/
def offB (A A' : gM) : Prop := ∀ a b, a ≠ 130 → a ≠ 131 → a ≠ 132 → a ≠ 134 → a ≠ 137 → ¬ (a = 129 ∧ b = 9) → A' a b = A a b
def oldN (A A' : gM) (u : Nat) : Prop := ∀ n, n < u → A' 130 n = A 130 n ∧ A' 131 n = A 131 n ∧ A' 132 n = A 132 n
theorem oldN_rfl {A : gM} {u : Nat} : oldN A A u := fun _ _ => ⟨rfl, rfl, rfl⟩
theorem oldN_tr {A B C : gM} {u v : Nat} (h1 : oldN A B u) (h2 : oldN B C v) (h : u ≤ v) : oldN A C u := fun n hn => ⟨(h2 n (by omega)).1.trans (h1 n hn).1, (h2 n (by omega)).2.1.trans (h1 n hn).2.1, (h2 n (by omega)).2.2.trans (h1 n hn).2.2⟩
theorem oldN_mk {A : gM} {u : Nat} {x y z : Int32} : oldN A (mkA A u x y z) u := fun n hn => ⟨by rw [mkA_130, if_neg (by omega)], by rw [mkA_131, if_neg (by omega)], by rw [mkA_132, if_neg (by omega)]⟩
theorem oldN_same {A A' : gM} {u : Nat} (h : sameS A A') : oldN A A' u := fun n _ => ⟨by rw [h.2.1], by rw [h.2.2.1], by rw [h.2.2.2]⟩
theorem offB_rfl {A : gM} : offB A A := fun _ _ _ _ _ _ _ _ => rfl
theorem offB_tr {A B C : gM} (h1 : offB A B) (h2 : offB B C) : offB A C := fun a b q1 q2 q3 q4 q5 q6 => (h2 a b q1 q2 q3 q4 q5 q6).trans (h1 a b q1 q2 q3 q4 q5 q6)
theorem offB_mk {A : gM} {u : Nat} {x y z : Int32} : offB A (mkA A u x y z) := fun a b q1 q2 q3 _ _ q6 => mkA_else (by omega)
def seatF (A : gM) (j : Nat) : Nat := (A 137 j).toNatClampNeg
def seatI (A : gM) (u0 u : Nat) (T : Nat → Rw) : Prop := (∀ j, j < 60 → A 137 j = -1 ∨ ∃ v, u0 ≤ v ∧ v < u ∧ A 137 j = nI v ∧ T v = [100 + v] ∧ A 130 v = nI 4) ∧ ∀ i j, i < 60 → j < 60 → A 137 i = A 137 j → A 137 i ≠ -1 → i = j
theorem build_init {x1 : Nat} {L : Nat} (hL : 1 ≤ L) (hL2 : L ≤ 60) : ∀ (f i : Nat) (A : gM), i ≤ 60 → 60 - i < f → ∃ A', mX4_build_L2 f A x1 (nI L) (nI i) = mX4_build_L33 gF A' x1 (nI 0) (nI L + (-1)) ∧ (∀ j, i ≤ j → j < 60 → A' 137 j = -1) ∧ (∀ j, j < i → A' 137 j = A 137 j) ∧ ∀ a b, a ≠ 137 → A' a b = A a b
  | 0, i, A, _, hf => by omega
  | f + 1, i, A, hi, hf => by
    show ∃ A', mX4_build_b2 (mX4_build_L2 f) A x1 (nI L) (nI i) = _ ∧ _
    unfold mX4_build_b2
    by_cases e : i = 60
    · subst e
      refine ⟨A, ?_, fun j h1 h2 => by omega, fun _ _ => rfl, fun _ _ _ => rfl⟩
      simp (disch := omega) only [lq2, lq3, lq4, lq5, lq6, lq7, lq8, lq9, lq10, lq11, lq40, lq59, lq60, lq61, lq100, lq500, lq2600, lq5208, lq1000000, ltT, ltF, leT, leF, eqT, eqF, lt0F, le0F, le0T, ge0T, eq0T, eq0F, eqm1F, ten0, m1lt0, eq_self, nI_add, nI_1, sub1, addm1, addm2, subn, cl0, cl1, ncl, ginT, gin0, gin1, if_true, if_false, Nat.add_sub_cancel, obe, ↓gle, true_or, or_true, nI0]
    · obtain ⟨A', h1, h2, h3, h4⟩ := build_init (x1 := x1) hL hL2 f (i + 1) (g_up A 137 i (-1)) (by omega) (by omega)
      refine ⟨A', ?_, fun j q1 q2 => ?_, fun j q => by rw [h3 j (by omega), up_p (by omega)], fun a b q => by rw [h4 a b q, up_c q]⟩
      · simp (disch := omega) only [lq2, lq3, lq4, lq5, lq6, lq7, lq8, lq9, lq10, lq11, lq40, lq59, lq60, lq61, lq100, lq500, lq2600, lq5208, lq1000000, ltT, ltF, leT, leF, eqT, eqF, lt0F, le0F, le0T, ge0T, eq0T, eq0F, eqm1F, ten0, m1lt0, eq_self, nI_add, nI_1, sub1, addm1, addm2, subn, cl0, cl1, ncl, ginT, gin0, gin1, if_true, if_false, Nat.add_sub_cancel, obe, ↓gle, true_or, or_true, h1]
      · by_cases e2 : j = i
        · subst e2; rw [h3 j (by omega), up_s]
        · exact h2 j (by omega) q2
theorem build_132 {K : gM → Nat → Int32 → Int32 → Option (gM × Int32)} {A : gM} {x1 sl k n : Nat} (hs : sl < 5208) : mX4_build_b132 K A x1 (nI sl) (nI k) (nI n) = K (g_up A 134 sl (nI n)) x1 (nI (sl + 1)) (nI k + (-1)) := by
  unfold mX4_build_b132 mX4_build_b150
  simp (disch := omega) only [lq2, lq3, lq4, lq5, lq6, lq7, lq8, lq9, lq10, lq11, lq40, lq59, lq60, lq61, lq100, lq500, lq2600, lq5208, lq1000000, ltT, ltF, leT, leF, eqT, eqF, lt0F, le0F, le0T, ge0T, eq0T, eq0F, eqm1F, ten0, m1lt0, eq_self, nI_add, nI_1, sub1, addm1, addm2, subn, cl0, cl1, ncl, ginT, gin0, gin1, if_true, if_false, Nat.add_sub_cancel, obe, ↓gle, true_or, or_true]
theorem isNodeF {A : gM} {c : Nat} (h : c < 100) : mX4_isNode A (nI c) = some (A, 0) := by
  unfold mX4_isNode mX4_isNode_b0 mX4_isNode_b11
  simp (disch := omega) only [lq2, lq3, lq4, lq5, lq6, lq7, lq8, lq9, lq10, lq11, lq40, lq59, lq60, lq61, lq100, lq500, lq2600, lq5208, lq1000000, ltT, ltF, leT, leF, eqT, eqF, lt0F, le0F, le0T, ge0T, eq0T, eq0F, eqm1F, ten0, m1lt0, eq_self, nI_add, nI_1, sub1, addm1, addm2, subn, cl0, cl1, ncl, ginT, gin0, gin1, if_true, if_false, Nat.add_sub_cancel, obe, ↓gle, true_or, or_true]
theorem isNodeT {A : gM} {c : Nat} (h : 100 ≤ c) (hb : c ≤ 2000000) : mX4_isNode A (nI c) = some (A, 1) := by
  unfold mX4_isNode mX4_isNode_b0 mX4_isNode_b11
  simp (disch := omega) only [lq2, lq3, lq4, lq5, lq6, lq7, lq8, lq9, lq10, lq11, lq40, lq59, lq60, lq61, lq100, lq500, lq2600, lq5208, lq1000000, ltT, ltF, leT, leF, eqT, eqF, lt0F, le0F, le0T, ge0T, eq0T, eq0F, eqm1F, ten0, m1lt0, eq_self, nI_add, nI_1, sub1, addm1, addm2, subn, cl0, cl1, ncl, ginT, gin0, gin1, if_true, if_false, Nat.add_sub_cancel, obe, ↓gle, true_or, or_true]
theorem nodeOfCode_k {A : gM} {c : Nat} (h : 100 ≤ c) : mX4_nodeOfCode A (nI c) = some (A, nI (c - 100)) := by
  unfold mX4_nodeOfCode mX4_nodeOfCode_b0
  simp (disch := omega) only [lq2, lq3, lq4, lq5, lq6, lq7, lq8, lq9, lq10, lq11, lq40, lq59, lq60, lq61, lq100, lq500, lq2600, lq5208, lq1000000, ltT, ltF, leT, leF, eqT, eqF, lt0F, le0F, le0T, ge0T, eq0T, eq0F, eqm1F, ten0, m1lt0, eq_self, nI_add, nI_1, sub1, addm1, addm2, subn, cl0, cl1, ncl, ginT, gin0, gin1, if_true, if_false, Nat.add_sub_cancel, obe, ↓gle, true_or, or_true]
theorem build_low {K : gM → Nat → Int32 → Int32 → Option (gM × Int32)} {A : gM} {x1 sl k c : Nat} (hk : k < 60) (hs : sl < 5208) (hA : A x1 k = nI c) (hc : c < 2) : mX4_build_b33 K A x1 (nI sl) (nI k) = K (g_up A 134 sl (nI c)) x1 (nI (sl + 1)) (nI k + (-1)) := by
  unfold mX4_build_b33
  simp (disch := omega) only [lq2, lq3, lq4, lq5, lq6, lq7, lq8, lq9, lq10, lq11, lq40, lq59, lq60, lq61, lq100, lq500, lq2600, lq5208, lq1000000, ltT, ltF, leT, leF, eqT, eqF, lt0F, le0F, le0T, ge0T, eq0T, eq0F, eqm1F, ten0, m1lt0, eq_self, nI_add, nI_1, sub1, addm1, addm2, subn, cl0, cl1, ncl, ginT, gin0, gin1, if_true, if_false, Nat.add_sub_cancel, obe, ↓gle, true_or, or_true, hA, isPairF, isNodeF, build_132]
theorem build_node {K : gM → Nat → Int32 → Int32 → Option (gM × Int32)} {A : gM} {x1 sl k c : Nat} (hk : k < 60) (hs : sl < 5208) (hA : A x1 k = nI c) (hc : 100 ≤ c) (hc2 : c ≤ 3000) : mX4_build_b33 K A x1 (nI sl) (nI k) = K (g_up A 134 sl (nI (c - 100))) x1 (nI (sl + 1)) (nI k + (-1)) := by
  unfold mX4_build_b33
  simp (disch := omega) only [lq2, lq3, lq4, lq5, lq6, lq7, lq8, lq9, lq10, lq11, lq40, lq59, lq60, lq61, lq100, lq500, lq2600, lq5208, lq1000000, ltT, ltF, leT, leF, eqT, eqF, lt0F, le0F, le0T, ge0T, eq0T, eq0F, eqm1F, ten0, m1lt0, eq_self, nI_add, nI_1, sub1, addm1, addm2, subn, cl0, cl1, ncl, ginT, gin0, gin1, if_true, if_false, Nat.add_sub_cancel, obe, ↓gle, true_or, or_true, hA, isPairF, isNodeT, build_132, nodeOfCode_k]
theorem build_seat {K : gM → Nat → Int32 → Int32 → Option (gM × Int32)} {A A1 : gM} {x1 sl k c v : Nat} (hk : k < 60) (hs : sl < 5208) (hA : A x1 k = nI c) (hc : 10 ≤ c) (hc2 : c < 70) (hv : mX4_variableAt A (nI (c - 10)) = some (A1, nI v)) : mX4_build_b33 K A x1 (nI sl) (nI k) = K (g_up A1 134 sl (nI v)) x1 (nI (sl + 1)) (nI k + (-1)) := by
  unfold mX4_build_b33
  simp (disch := omega) only [lq2, lq3, lq4, lq5, lq6, lq7, lq8, lq9, lq10, lq11, lq40, lq59, lq60, lq61, lq100, lq500, lq2600, lq5208, lq1000000, ltT, ltF, leT, leF, eqT, eqF, lt0F, le0F, le0T, ge0T, eq0T, eq0F, eqm1F, ten0, m1lt0, eq_self, nI_add, nI_1, sub1, addm1, addm2, subn, cl0, cl1, ncl, ginT, gin0, gin1, if_true, if_false, Nat.add_sub_cancel, obe, ↓gle, true_or, or_true, hA, isPairF, isNodeF, build_132, hv]
theorem build_pair {K : gM → Nat → Int32 → Int32 → Option (gM × Int32)} {A A1 : gM} {x1 sl k c i j v : Nat} (hk : k < 60) (hs : sl < 5200) (hA : A x1 k = nI c) (hc : c = 2 ∨ c = 3) (hi : A 134 (sl + 1) = nI i) (hj : A 134 sl = nI j) (hv : mX4_make A (nI c) (nI i) (nI j) = some (A1, nI v)) : mX4_build_b33 K A x1 (nI (sl + 2)) (nI k) = K (g_up A1 134 sl (nI v)) x1 (nI (sl + 1)) (nI k + (-1)) := by
  unfold mX4_build_b33
  have e1 : sl + 2 - 1 = sl + 1 := by omega
  simp (disch := omega) only [lq2, lq3, lq4, lq5, lq6, lq7, lq8, lq9, lq10, lq11, lq40, lq59, lq60, lq61, lq100, lq500, lq2600, lq5208, lq1000000, ltT, ltF, leT, leF, eqT, eqF, lt0F, le0F, le0T, ge0T, eq0T, eq0F, eqm1F, ten0, m1lt0, eq_self, nI_add, nI_1, sub1, addm1, addm2, subn, cl0, cl1, ncl, ginT, gin0, gin1, if_true, if_false, Nat.add_sub_cancel, obe, ↓gle, true_or, or_true, hA, isPairT, build_132, e1, hi, hj, hv]
theorem build_end {K : gM → Nat → Int32 → Int32 → Option (gM × Int32)} {A : gM} {x1 r : Nat} (h : A 134 0 = nI r) : mX4_build_b33 K A x1 (nI 1) (nI 0 + (-1)) = some (A, nI r) := by
  unfold mX4_build_b33 mX4_build_b172
  rw [show nI 0 + (-1) = -1 from rfl]
  simp (disch := omega) only [lq2, lq3, lq4, lq5, lq6, lq7, lq8, lq9, lq10, lq11, lq40, lq59, lq60, lq61, lq100, lq500, lq2600, lq5208, lq1000000, ltT, ltF, leT, leF, eqT, eqF, lt0F, le0F, le0T, ge0T, eq0T, eq0F, eqm1F, ten0, m1lt0, eq_self, nI_add, nI_1, sub1, addm1, addm2, subn, cl0, cl1, ncl, ginT, gin0, gin1, if_true, if_false, Nat.add_sub_cancel, obe, ↓gle, true_or, or_true, m1lt0, Nat.sub_self, h]
/-- the variable of a seat, an old one or a new one -/
theorem variableAt_ok {A : gM} {u0 u : Nat} {T : Nat → Rw} {ch : Nat → Nat} {j : Nat} (h : sT A u T ch) (hu0 : u0 ≤ u) (hs : seatI A u0 u T) (hj : j < 60) (hu : u < 2600) :
    ∃ A' u' T' ch' v, mX4_variableAt A (nI j) = some (A', nI v) ∧ sT A' u' T' ch' ∧ seatI A' u0 u' T' ∧ u ≤ u' ∧ u' ≤ u + 1 ∧ v < u' ∧ A' 137 j = nI v ∧ T' v = [100 + v] ∧ (∀ n, n < u → T' n = T n) ∧ (∀ i, i < 60 → A 137 i ≠ -1 → A' 137 i = A 137 i) ∧ oldN A A' u ∧ (∀ a b, a ≠ 130 → a ≠ 131 → a ≠ 132 → a ≠ 137 → ¬ (a = 129 ∧ b = 9) → A' a b = A a b) ∧ seatF A' j = v := by
  rcases hs.1 j hj with e | ⟨v, h0, hv, ha, hT, h4⟩
  · have hmk := var_ok h hu
    have hne : ∀ i, i < 60 → A 137 i ≠ -1 → i ≠ j := fun i _ q z => q (by rw [z]; exact e)
    have hk : ∀ i, (mkA A u 4 (-1) (-1)) 137 i = A 137 i := fun i => mkA_else (by omega)
    refine ⟨g_up (mkA A u 4 (-1) (-1)) 137 j (nI u), u + 1, _, _, u, ?_, sT_same (sameS_up (by omega)) hmk.2, ⟨fun i hi => ?_, fun i i2 hi hi2 q1 q2 => ?_⟩, by omega, by omega, by omega, up_s, at1_s, fun n hn => at1_n (by omega), fun i hi q => by rw [up_p (hne i hi q), hk], oldN_tr oldN_mk (oldN_same (sameS_up (by omega)) (u := u)) (Nat.le_refl _), fun a b q1 q2 q3 q4 q5 => by rw [up_c q4, mkA_else (by omega)], ?_⟩
    · have e4 : mX4_make A (nI 4) (-1) (-1) = some (mkA A u 4 (-1) (-1), nI u) := hmk.1
      unfold mX4_variableAt mX4_variableAt_b0 mX4_variableAt_b35
      simp (disch := omega) only [lq2, lq3, lq4, lq5, lq6, lq7, lq8, lq9, lq10, lq11, lq40, lq59, lq60, lq61, lq100, lq500, lq2600, lq5208, lq1000000, ltT, ltF, leT, leF, eqT, eqF, lt0F, le0F, le0T, ge0T, eq0T, eq0F, eqm1F, ten0, m1lt0, eq_self, nI_add, nI_1, sub1, addm1, addm2, subn, cl0, cl1, ncl, ginT, gin0, gin1, if_true, if_false, Nat.add_sub_cancel, obe, ↓gle, true_or, or_true, e, e4, upS]
    · by_cases q : i = j
      · subst q
        exact Or.inr ⟨u, hu0, by omega, up_s, at1_s, by rw [up_c (by omega), mkA_130, if_pos rfl]; rfl⟩
      · rw [up_p q, hk]
        rcases hs.1 i hi with e | ⟨v, h0, hv, ha, hT, h4⟩
        · exact Or.inl e
        · exact Or.inr ⟨v, h0, by omega, ha, by rw [at1_n (by omega)]; exact hT, by rw [up_c (by omega), mkA_130, if_neg (by omega)]; exact h4⟩
    · have fresh : ∀ i, i < 60 → i ≠ j → A 137 i ≠ nI u := by
        intro i hi hij q
        rcases hs.1 i hi with e | ⟨v, h0, hv, ha, hT, h4⟩
        · rw [e] at q; exact absurd q.symm (by rw [eqm1F (by omega)]; exact not_false)
        · rw [ha, neq (by omega) (by omega)] at q; omega
      by_cases w1 : i = j
      · by_cases w2 : i2 = j
        · rw [w1, w2]
        · subst w1
          rw [up_s, up_p w2, hk] at q1
          exact absurd q1.symm (fresh i2 hi2 w2)
      · by_cases w2 : i2 = j
        · subst w2
          rw [up_s, up_p w1, hk] at q1
          exact absurd q1 (fresh i hi w1)
        · rw [up_p w1, up_p w2, hk, hk] at q1
          rw [up_p w1, hk] at q2
          exact hs.2 i i2 hi hi2 q1 q2
    · unfold seatF; rw [up_s, ncl (by omega)]
  · refine ⟨A, u, T, ch, v, ?_, h, hs, by omega, by omega, hv, ha, hT, fun _ _ => rfl, fun _ _ _ => rfl, oldN_rfl, fun _ _ _ _ _ _ _ => rfl, by unfold seatF; rw [ha, ncl (by have := h.2.2.1; omega)]⟩
    have := h.2.2.1
    unfold mX4_variableAt mX4_variableAt_b0 mX4_variableAt_b35
    simp (disch := omega) only [lq2, lq3, lq4, lq5, lq6, lq7, lq8, lq9, lq10, lq11, lq40, lq59, lq60, lq61, lq100, lq500, lq2600, lq5208, lq1000000, ltT, ltF, leT, leF, eqT, eqF, lt0F, le0F, le0T, ge0T, eq0T, eq0F, eqm1F, ten0, m1lt0, eq_self, nI_add, nI_1, sub1, addm1, addm2, subn, cl0, cl1, ncl, ginT, gin0, gin1, if_true, if_false, Nat.add_sub_cancel, obe, ↓gle, true_or, or_true, ha, eqm1F]
def codesB (u : Nat) (R : Rw) : Prop := ∀ c ∈ R, c < 4 ∨ (10 ≤ c ∧ c < 70) ∨ (100 ≤ c ∧ c - 100 < u)
def rowIn (A : gM) (x : Nat) (R : Rw) : Prop := ∀ i c, R[i]? = some c → A x i = nI c
def BL (x1 u0 : Nat) (R : Rw) (f : Nat) : Prop := ∀ (A : gM) (u : Nat) (T : Nat → Rw) (ch : Nat → Nat) (st : List Nat) (k : Nat), sT A u T ch → rowIn A x1 R → seatI A u0 u T → u0 ≤ u → stk A st → (∀ n ∈ st, n < u) → k ≤ R.length → k < f → u + k ≤ 2600 →
    tk st.length (R.drop k) = some 0 → restOf T st = exR (seatF A) T (R.drop k) → (∀ c ∈ R.drop k, 10 ≤ c → c < 100 → A 137 (c - 10) ≠ -1) → st.length + k ≤ 121 →
    ∃ A' u' T' ch' r, mX4_build_L33 f A x1 (nI st.length) (nI k + (-1)) = some (A', nI r) ∧ sT A' u' T' ch' ∧ seatI A' u0 u' T' ∧ u ≤ u' ∧ u' ≤ u + k ∧ r < u' ∧ T' r = exR (seatF A') T' R ∧ (∀ n, n < u → T' n = T n) ∧ oldN A A' u ∧ offB A A' ∧ (∀ c ∈ R, 10 ≤ c → c < 100 → A' 137 (c - 10) ≠ -1)
theorem drop_at {R : Rw} {k : Nat} (h : k < R.length) : ∃ c, R[k]? = some c ∧ R.drop k = c :: R.drop (k + 1) ∧ c ∈ R :=
  ⟨R[k], List.getElem?_eq_getElem h, List.drop_eq_getElem_cons h, List.getElem_mem h⟩
theorem tk_suf {R : Rw} {k : Nat} (h : Ty R) : ∃ m, tk m (R.drop k) = some 0 := by
  have h1 : tk 1 (R.take k ++ R.drop k) = some 0 := by rw [List.take_append_drop]; exact h
  rw [tk_app] at h1
  cases hm : tk 1 (R.take k) with
  | none => rw [hm] at h1; cases h1
  | some m => rw [hm] at h1; exact ⟨m, h1⟩
theorem build_S {x1 u0 : Nat} {R : Rw} (hx : x1 = 182 ∨ (141 ≤ x1 ∧ x1 ≤ 180)) (hR : Ty R) (hl : R.length ≤ 60) {uu : Nat} (huu : u0 = uu) (hc : codesB uu R) {f : Nat} (ih : BL x1 u0 R f) : BL x1 u0 R (f + 1) := by
  intro A u T ch st k h hrow hseat hu0 hk hb hkl hf huk htk hrest hseen hst
  have hu2 := h.2.2.1
  cases k with
  | zero =>
    have h1 : st.length = 1 := tk_inj R _ _ 0 htk hR
    cases st with
    | nil => cases h1
    | cons r st =>
      have : st = [] := List.length_eq_zero_iff.mp (by simpa using h1)
      subst this
      have hrest : T r ++ [] = exR (seatF A) T R := hrest
      rw [List.append_nil] at hrest
      exact ⟨A, u, T, ch, r, build_end hk.1, h, hseat, by omega, by omega, hb r List.mem_cons_self, hrest, fun _ _ => rfl, oldN_rfl, offB_rfl, hseen⟩
  | succ k =>
    obtain ⟨c, hg, hd, hcR⟩ := drop_at (R := R) (k := k) (by omega)
    have hA := hrow k c hg
    obtain ⟨m, hm⟩ := tk_suf (k := k) hR
    have hm0 := hm
    rw [hd] at hm
    have hmm : ∃ p, m = p + 1 ∧ st.length = p + ar c := by
      cases m with
      | zero => cases hm
      | succ p => exact ⟨p, rfl, tk_inj _ _ _ 0 htk hm⟩
    obtain ⟨p, hp, hsl⟩ := hmm
    show ∃ A' u' T' ch' r, mX4_build_b33 (mX4_build_L33 f) A x1 (nI st.length) (nI (k + 1) + (-1)) = _ ∧ _
    rw [show nI (k + 1) + (-1) = nI k from addm1 (k := k + 1) (by omega)]
    have w : ∀ (B : gM), (∀ b, b < 60 → B x1 b = A x1 b) → rowIn B x1 R := fun B q i c' hi => by
      rw [q i (by have := (List.getElem?_eq_some_iff.mp hi).1; omega)]; exact hrow i c' hi
    have leaf : ∀ n, n < u → ar c = 0 → T n = (if c < 10 then [c] else if c < 100 then [100 + seatF A (c - 10)] else T (c - 100)) → ¬ (10 ≤ c ∧ c < 100) → mX4_build_b33 (mX4_build_L33 f) A x1 (nI st.length) (nI k) = mX4_build_L33 f (g_up A 134 st.length (nI n)) x1 (nI (st.length + 1)) (nI k + (-1)) →
        ∃ A' u' T' ch' r, mX4_build_b33 (mX4_build_L33 f) A x1 (nI st.length) (nI k) = some (A', nI r) ∧ sT A' u' T' ch' ∧ seatI A' u0 u' T' ∧ u ≤ u' ∧ u' ≤ u + (k + 1) ∧ r < u' ∧ T' r = exR (seatF A') T' R ∧ (∀ n, n < u → T' n = T n) ∧ oldN A A' u ∧ offB A A' ∧ (∀ c ∈ R, 10 ≤ c → c < 100 → A' 137 (c - 10) ≠ -1) := by
      intro n hn h0 hTn hns he
      have e134 : ∀ a b, a ≠ 134 → g_up A 134 st.length (nI n) a b = A a b := fun a b q => up_c q
      obtain ⟨A', u', T', ch', r, g1, g2, g3, g4, g5, g6, g7, g8, g9, g10, g11⟩ := ih (g_up A 134 st.length (nI n)) u T ch (n :: st) k (sT_same (sameS_up (by omega)) h) (w _ fun b _ => up_c (by omega)) ⟨fun j hj => by rw [e134 137 j (by omega)]; rcases hseat.1 j hj with q | ⟨v, q1, q2, q3, q4, q5⟩; exact Or.inl q; exact Or.inr ⟨v, q1, q2, q3, q4, by rw [up_c (by omega)]; exact q5⟩, fun i j hi hj => by rw [e134 137 i (by omega), e134 137 j (by omega)]; exact hseat.2 i j hi hj⟩ hu0 ⟨up_s, stk_same (fun j hj => up_p (by omega)) hk⟩ (fun q hq => by rcases List.mem_cons.mp hq with rfl | hq; exact hn; exact hb q hq) (by omega) (by omega) (by omega)
        (by rw [List.length_cons, hsl, h0, Nat.add_zero, ← hp]; exact hm0)
        (by
          rw [hd, exR_cons]
          show T n ++ restOf T st = _
          rw [hrest, hTn]
          congr 1)
        (by
          intro c' hc' q1 q2
          rw [e134 137 _ (by omega)]
          rw [hd] at hc'
          rcases List.mem_cons.mp hc' with rfl | hc'
          · exact absurd ⟨q1, q2⟩ hns
          · exact hseen c' hc' q1 q2)
        (by rw [List.length_cons]; omega)
      rw [he]
      exact ⟨A', u', T', ch', r, g1, g2, g3, g4, by omega, g6, g7, g8, fun n hn => by have := g9 n hn; rw [up_c (by omega), up_c (by omega), up_c (by omega)] at this; exact this, fun a b q1 q2 q3 q4 q5 q6 => by rw [g10 a b q1 q2 q3 q4 q5 q6, up_c q4], g11⟩
    have lit := sT_lit h
    have hst2 : st.length < 5200 := by omega
    rcases hc c hcR with q | q | q
    · by_cases qp : c = 2 ∨ c = 3
      · have h2 : ar c = 2 := if_pos qp
        rw [h2] at hsl
        cases st with
        | nil => rw [List.length_nil] at hsl; omega
        | cons i st =>
        cases st with
        | nil => rw [List.length_cons, List.length_nil] at hsl; omega
        | cons j st =>
        have hi := hb i List.mem_cons_self
        have hj := hb j (List.mem_cons_of_mem _ List.mem_cons_self)
        have hmk := pair_ok h (by omega) qp hi hj
        have hk2 : A 134 (st.length + 1) = nI i ∧ A 134 st.length = nI j ∧ stk A st := ⟨by have := hk.1; rw [List.length_cons] at this; exact this, hk.2.1, hk.2.2⟩
        rw [show (i :: j :: st).length = st.length + 2 from rfl] at hsl htk hst hst2 ⊢
        have el : ∀ a b, a ≠ 130 → a ≠ 131 → a ≠ 132 → a ≠ 134 → ¬ (a = 129 ∧ b = 9) → g_up (mkA A u (nI c) (nI i) (nI j)) 134 st.length (nI u) a b = A a b := fun a b q1 q2 q3 q4 q5 => by rw [up_c q4, mkA_else (by omega)]
        have nw : ∀ n, n < u → at1 T u (c :: (T i ++ T j)) n = T n := fun n hn => at1_n (by omega)
        obtain ⟨A', u', T', ch', r, g1, g2, g3, g4, g5, g6, g7, g8, g9, g10, g11⟩ := ih (g_up (mkA A u (nI c) (nI i) (nI j)) 134 st.length (nI u)) (u + 1) _ _ (u :: st) k (sT_same (sameS_up (by omega)) hmk.2) (w _ fun b _ => el x1 b (by omega) (by omega) (by omega) (by omega) (by omega))
          ⟨fun j' hj' => by
              rw [el 137 j' (by omega) (by omega) (by omega) (by omega) (by omega)]
              rcases hseat.1 j' hj' with q | ⟨v, q1, q2, q3, q4, q5⟩
              · exact Or.inl q
              · exact Or.inr ⟨v, q1, by omega, q3, by rw [nw v q2]; exact q4, by rw [up_c (by omega), mkA_130, if_neg (by omega)]; exact q5⟩,
            fun i' j' hi' hj' => by rw [el 137 i' (by omega) (by omega) (by omega) (by omega) (by omega), el 137 j' (by omega) (by omega) (by omega) (by omega) (by omega)]; exact hseat.2 i' j' hi' hj'⟩
          (by omega)
          ⟨up_s, stk_same (fun j' hj' => by rw [up_p (by omega), mkA_else (by omega)]) hk2.2.2⟩
          (fun q hq => by
            rcases List.mem_cons.mp hq with rfl | hq
            · omega
            · have := hb q (List.mem_cons_of_mem _ (List.mem_cons_of_mem _ hq)); omega)
          (by omega) (by omega) (by omega)
          (by rw [List.length_cons, show st.length = p by omega, ← hp]; exact hm0)
          (by
            rw [hd, exR_cons, if_pos (by omega)]
            show at1 T u (c :: (T i ++ T j)) u ++ restOf (at1 T u (c :: (T i ++ T j))) st = _
            have hr : ∀ (st : List Nat), (∀ n ∈ st, n < u) → restOf (at1 T u (c :: (T i ++ T j))) st = restOf T st := by
              intro st hs
              induction st with
              | nil => rfl
              | cons a st ih2 => show _ ++ _ = _ ++ _; rw [nw a (hs a List.mem_cons_self), ih2 fun n hn => hs n (List.mem_cons_of_mem _ hn)]
            rw [at1_s, hr st fun n hn => hb n (List.mem_cons_of_mem _ (List.mem_cons_of_mem _ hn))]
            rw [exR_cg (g' := seatF A) (T' := T) (fun c' _ _ _ => by unfold seatF; rw [el 137 _ (by omega) (by omega) (by omega) (by omega) (by omega)]) (fun c' hc' q9 => nw _ (by have := hc c' (List.mem_of_mem_drop hc'); omega)), ← hrest]
            show c :: (T i ++ T j) ++ restOf T st = [c] ++ (T i ++ (T j ++ restOf T st))
            rw [List.cons_append, List.append_assoc]; rfl)
          (by
            intro c' hc' q1 q2
            rw [el 137 _ (by omega) (by omega) (by omega) (by omega) (by omega)]
            rw [hd] at hc'
            rcases List.mem_cons.mp hc' with rfl | hc'
            · omega
            · exact hseen c' hc' q1 q2)
          (by rw [List.length_cons]; omega)
        rw [build_pair (by omega) (by omega) hA qp hk2.1 hk2.2.1 hmk.1]
        refine ⟨A', u', T', ch', r, g1, g2, g3, by omega, by omega, g6, g7, fun n hn => by rw [g8 n (by omega), nw n hn], fun n hn => ?_, fun a b q1 q2 q3 q4 q5 q6 => by rw [g10 a b q1 q2 q3 q4 q5 q6, el a b q1 q2 q3 q4 q6], g11⟩
        have := g9 n (by omega)
        rw [up_c (by omega), up_c (by omega), up_c (by omega)] at this
        have o := oldN_mk (A := A) (x := nI c) (y := nI i) (z := nI j) n hn
        exact ⟨this.1.trans o.1, this.2.1.trans o.2.1, this.2.2.trans o.2.2⟩
      · have h0 : ar c = 0 := if_neg qp
        have hc2 : c < 2 := by omega
        refine leaf c (by have := h.2.1; omega) h0 ?_ (by omega) (build_low (by omega) (by omega) hA hc2)
        rw [if_pos (by omega)]
        have : c = 0 ∨ c = 1 := by omega
        rcases this with rfl | rfl
        · exact lit.1
        · exact lit.2.1
    · have h0 : ar c = 0 := if_neg (by omega)
      obtain ⟨A1, u1, T1, ch1, v, v1, v2, v3, v4, v5, v6, v7, v8, v9, v10, v11, v12, v13⟩ := variableAt_ok h hu0 hseat (j := c - 10) (by omega) (by omega)
      have hr : ∀ (st : List Nat), (∀ n ∈ st, n < u) → restOf T1 st = restOf T st := by
        intro st hs
        induction st with
        | nil => rfl
        | cons a st ih2 => show _ ++ _ = _ ++ _; rw [v9 a (hs a List.mem_cons_self), ih2 fun n hn => hs n (List.mem_cons_of_mem _ hn)]
      have s137 : ∀ j, g_up A1 134 st.length (nI v) 137 j = A1 137 j := fun j => up_c (by omega)
      obtain ⟨A', u', T', ch', r, g1, g2, g3, g4, g5, g6, g7, g8, g9, g10, g11⟩ := ih (g_up A1 134 st.length (nI v)) u1 T1 ch1 (v :: st) k (sT_same (sameS_up (by omega)) v2) (w _ fun b _ => by rw [up_c (by omega), v12 x1 b (by omega) (by omega) (by omega) (by omega) (by omega)])
        ⟨fun j hj => by
            rw [s137]
            rcases v3.1 j hj with q | ⟨v', q1, q2, q3, q4, q5⟩
            · exact Or.inl q
            · exact Or.inr ⟨v', q1, q2, q3, q4, by rw [up_c (by omega)]; exact q5⟩,
          fun i j hi hj => by rw [s137, s137]; exact v3.2 i j hi hj⟩
        (by omega)
        ⟨up_s, stk_same (fun j hj => by rw [up_p (by omega), v12 134 j (by omega) (by omega) (by omega) (by omega) (by omega)]) hk⟩
        (fun q hq => by
          rcases List.mem_cons.mp hq with rfl | hq
          · exact v6
          · have := hb q hq; omega)
        (by omega) (by omega) (by omega)
        (by rw [List.length_cons, hsl, h0, Nat.add_zero, ← hp]; exact hm0)
        (by
          rw [hd, exR_cons, if_neg (by omega), if_pos (by omega)]
          show T1 v ++ restOf T1 st = _
          rw [v8, hr st hb, hrest]
          congr 1
          · show [100 + v] = [100 + seatF _ (c - 10)]
            unfold seatF; rw [s137]
            have : seatF A1 (c - 10) = v := v13
            unfold seatF at this; rw [this]
          · refine exR_cg (fun c' hc' q1 q2 => ?_) (fun c' hc' q9 => (v9 _ (by have := hc c' (List.mem_of_mem_drop hc'); omega)).symm)
            unfold seatF
            rw [s137, v10 (c' - 10) (by have := hc c' (List.mem_of_mem_drop hc'); omega) (hseen c' hc' q1 q2)])
        (by
          intro c' hc' q1 q2
          rw [s137]
          rw [hd] at hc'
          rcases List.mem_cons.mp hc' with rfl | hc'
          · rw [v7]; intro z; exact absurd z (by rw [eqm1F (by have := v2.2.2.1; omega)]; exact not_false)
          · rw [v10 (c' - 10) (by have := hc c' (List.mem_of_mem_drop hc'); omega) (hseen c' hc' q1 q2)]
            exact hseen c' hc' q1 q2)
        (by rw [List.length_cons]; omega)
      rw [build_seat (by omega) (by omega) hA q.1 q.2 v1]
      refine ⟨A', u', T', ch', r, g1, g2, g3, by omega, by omega, g6, g7, fun n hn => by rw [g8 n (by omega), v9 n hn], fun n hn => ?_, fun a b q1 q2 q3 q4 q5 q6 => by rw [g10 a b q1 q2 q3 q4 q5 q6, up_c q4, v12 a b q1 q2 q3 q5 q6], g11⟩
      have := g9 n (by omega)
      rw [up_c (by omega), up_c (by omega), up_c (by omega)] at this
      have o := v11 n hn
      exact ⟨this.1.trans o.1, this.2.1.trans o.2.1, this.2.2.trans o.2.2⟩
    · have h0 : ar c = 0 := if_neg (by omega)
      refine leaf (c - 100) (by omega) h0 ?_ (by omega) (build_node (by omega) (by omega) hA q.1 (by omega))
      rw [if_neg (by omega), if_neg (by omega)]
theorem build_L {x1 u0 : Nat} {R : Rw} (hx : x1 = 182 ∨ (141 ≤ x1 ∧ x1 ≤ 180)) (hR : Ty R) (hl : R.length ≤ 60) (hc : codesB u0 R) : ∀ f, BL x1 u0 R f
  | 0 => fun _ _ _ _ _ _ _ _ _ _ _ _ _ hf => absurd hf (Nat.not_lt_zero _)
  | f + 1 => build_S hx hR hl rfl hc (build_L hx hR hl hc f)
theorem build_ok {A : gM} {u : Nat} {T : Nat → Rw} {ch : Nat → Nat} {x1 : Nat} {R : Rw} (h : sT A u T ch) (hx : x1 = 182 ∨ (141 ≤ x1 ∧ x1 ≤ 180)) (hR : Ty R) (hl : R.length ≤ 60) (hc : codesB u R) (hrow : rowIn A x1 R) (hu : u + R.length ≤ 2600) :
    ∃ A' u' T' ch' r g, mX4_build A x1 (nI R.length) = some (A', nI r) ∧ sT A' u' T' ch' ∧ u ≤ u' ∧ u' ≤ u + R.length ∧ r < u' ∧ T' r = exR g T R ∧ (∀ n, n < u → T' n = T n) ∧ oldN A A' u ∧ offB A A' ∧
      (∀ c ∈ R, 10 ≤ c → c < 100 → u ≤ g (c - 10) ∧ g (c - 10) < u' ∧ T' (g (c - 10)) = [100 + g (c - 10)] ∧ A' 130 (g (c - 10)) = nI 4) ∧ (∀ c ∈ R, ∀ d ∈ R, 10 ≤ c → c < 100 → 10 ≤ d → d < 100 → g (c - 10) = g (d - 10) → c = d) := by
  have hpos : 1 ≤ R.length := by
    have := Ty_ne hR
    cases R with
    | nil => exact absurd rfl this
    | cons c R => simp
  obtain ⟨A0, e0, i1, -, i3⟩ := build_init (x1 := x1) hpos hl gF 0 A (by omega) (by unfold gF; omega)
  have s0 : sameS A A0 := ⟨i3 _ _ (by omega), funext fun b => i3 _ b (by omega), funext fun b => i3 _ b (by omega), funext fun b => i3 _ b (by omega)⟩
  obtain ⟨A', u', T', ch', r, g1, g2, g3, g4, g5, g6, g7, g8, g9, g10, g11⟩ := build_L hx hR hl hc gF A0 u T ch [] R.length (sT_same s0 h) (fun i c q => by rw [i3 x1 i (by omega)]; exact hrow i c q) ⟨fun j hj => Or.inl (i1 j (by omega) hj), fun i j hi hj _ q => absurd (i1 i (by omega) hi) q⟩ (Nat.le_refl _) trivial (fun n hn => by cases hn) (Nat.le_refl _) (by unfold gF; omega) hu
    (by rw [List.drop_length]; rfl) (by rw [List.drop_length]; rfl) (fun c hc => by rw [List.drop_length] at hc; cases hc) (by rw [List.length_nil]; omega)
  have key : ∀ c ∈ R, 10 ≤ c → c < 100 → u ≤ seatF A' (c - 10) ∧ seatF A' (c - 10) < u' ∧ T' (seatF A' (c - 10)) = [100 + seatF A' (c - 10)] ∧ A' 130 (seatF A' (c - 10)) = nI 4 ∧ A' 137 (c - 10) = nI (seatF A' (c - 10)) := by
    intro c hcR q1 q2
    have hb := hc c hcR
    rcases g3.1 (c - 10) (by omega) with q | ⟨v, w1, w2, w3, w4, w5⟩
    · exact absurd q (g11 c hcR q1 q2)
    · have : seatF A' (c - 10) = v := by unfold seatF; rw [w3, ncl (by have := g2.2.2.1; omega)]
      rw [this]; exact ⟨w1, w2, w4, w5, w3⟩
  refine ⟨A', u', T', ch', r, seatF A', ?_, g2, g4, g5, g6, ?_, g8, ?_, ?_, fun c hcR q1 q2 => ⟨(key c hcR q1 q2).1, (key c hcR q1 q2).2.1, (key c hcR q1 q2).2.2.1, (key c hcR q1 q2).2.2.2.1⟩, fun c hcR d hdR q1 q2 q3 q4 e => ?_⟩
  · show mX4_build_L2 gF A x1 (nI R.length) (nI 0) = _
    rw [e0]; exact g1
  · rw [g7]; exact exR_cg (fun _ _ _ _ => rfl) fun c hcR q => g8 _ (by have := hc c hcR; omega)
  · exact oldN_tr (oldN_same s0 (u := u)) g9 (Nat.le_refl _)
  · exact fun a b q1 q2 q3 q4 q5 q6 => by rw [g10 a b q1 q2 q3 q4 q5 q6, i3 a b q5]
  · have hb := hc c hcR
    have hb2 := hc d hdR
    have := g3.2 (c - 10) (d - 10) (by omega) (by omega) (by rw [(key c hcR q1 q2).2.2.2.2, (key d hdR q3 q4).2.2.2.2, e]) (g11 c hcR q1 q2)
    omega
