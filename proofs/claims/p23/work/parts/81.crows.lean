/-! THE CLASS'S ROWS -/
theorem fact3_w {A : gM} {p w : Nat} (hp : p < 40) (hw : w < 5) : mX3_fact A (nI p) (nI w) = some (A, A (86 + p) w) := by
  unfold mX3_fact mX3_fact_b0 mX3_fact_b15 mX3_fact_b41
  simp (disch := omega) only [lq2, lq3, lq4, lq5, lq6, lq7, lq8, lq9, lq10, lq11, lq40, lq59, lq60, lq61, lq100, lq500, lq2600, lq5208, lq1000000, ltT, ltF, leT, leF, eqT, eqF, lt0F, le0F, le0T, ge0T, eq0T, eq0F, eqm1F, ten0, m1lt0, eq_self, nI_add, nI_1, sub1, addm1, addm2, subn, cl0, cl1, ncl, ginT, gin0, gin1, ↓reduceIte, if_true, if_false, Nat.add_sub_cancel, obe, ↓gle, true_or, or_true]
theorem fact3_0 {A : gM} {p : Nat} (hp : p < 40) : mX3_fact A (nI p) 0 = some (A, A (86 + p) 0) := by rw [show (0 : Int32) = nI 0 from nI0.symm]; exact fact3_w hp (by omega)
theorem fact3_2 {A : gM} {p : Nat} (hp : p < 40) : mX3_fact A (nI p) 2 = some (A, A (86 + p) 2) := by rw [lq2]; exact fact3_w hp (by omega)
theorem codeAt_k {A : gM} {p i : Nat} (hp : p < 40) (hi : i < 60) : mX3_codeAt A (nI p) (nI i) = some (A, A (45 + p) i) := by
  unfold mX3_codeAt mX3_codeAt_b0 mX3_codeAt_b15 mX3_codeAt_b42
  simp (disch := omega) only [lq2, lq3, lq4, lq5, lq6, lq7, lq8, lq9, lq10, lq11, lq40, lq59, lq60, lq61, lq100, lq500, lq2600, lq5208, lq1000000, ltT, ltF, leT, leF, eqT, eqF, lt0F, le0F, le0T, ge0T, eq0T, eq0F, eqm1F, ten0, m1lt0, eq_self, nI_add, nI_1, sub1, addm1, addm2, subn, cl0, cl1, ncl, ginT, gin0, gin1, ↓reduceIte, if_true, if_false, Nat.add_sub_cancel, obe, ↓gle, true_or, or_true]
theorem ltneg {m : Nat} {v : Int32} (hm : m ≤ 2000000) (hv : v.toInt < 0) : (nI m < v) = False := by
  refine eq_false fun q => ?_
  rw [Int32.lt_iff_toInt_lt, nI_toInt (by omega)] at q
  omega
theorem var_val {m c : Nat} (hm : m ≤ 2000) (hc : c < 4 ∨ (10 ≤ c ∧ c ≤ 3000)) : (if nI m < (nI c - 10) + 1 then (nI c - 10) + 1 else nI m) = nI (max m (c - 9)) := by
  rcases hc with hc | hc
  · have h0 : c - 9 = 0 := by omega
    have hv : ((nI c - 10) + 1 : Int32).toInt < 0 := by
      have : c = 0 ∨ c = 1 ∨ c = 2 ∨ c = 3 := by omega
      rcases this with rfl | rfl | rfl | rfl <;> decide +kernel
    rw [if_neg (by rw [ltneg (by omega) hv]; exact not_false), h0, Nat.max_zero]
  · have e : (nI c - 10) + 1 = nI (c - 9) := by
      rw [lq10, subn (by omega), nI_1, show c - 10 + 1 = c - 9 by omega]
    rw [e]
    by_cases q : m < c - 9
    · rw [if_pos (by rw [nlt (by omega) (by omega)]; exact q), show max m (c - 9) = c - 9 by omega]
    · rw [if_neg (by rw [nlt (by omega) (by omega)]; exact q), show max m (c - 9) = m by omega]
theorem vars_step {K : gM → Int32 → Int32 → Int32 → Int32 → Option (gM × Int32)} {A : gM} {p L m i c : Nat} (hp : p < 40) (hL : L ≤ 60) (hi : i < L) (hA : A (45 + p) i = nI c) (hm : m ≤ 2000) (hc : c < 4 ∨ (10 ≤ c ∧ c ≤ 3000)) : mX3_variablesIn_b5 K A (nI p) (nI L) (nI m) (nI i) = K A (nI p) (nI L) (nI (max m (c - 9))) (nI (i + 1)) := by
  have h1 := codeAt_k (A := A) (p := p) (i := i) hp (by omega)
  rw [hA] at h1
  unfold mX3_variablesIn_b5
  rw [if_neg (by rw [nle (by omega) (by omega)]; omega), bnd h1, gle, gle]
  dsimp only
  rw [var_val hm hc, nI_1]
theorem vars_end {K : gM → Int32 → Int32 → Int32 → Int32 → Option (gM × Int32)} {A : gM} {p L m : Nat} (hL : L ≤ 60) : mX3_variablesIn_b5 K A (nI p) (nI L) (nI m) (nI L) = some (A, nI m) := by
  unfold mX3_variablesIn_b5
  simp (disch := omega) only [lq2, lq3, lq4, lq5, lq6, lq7, lq8, lq9, lq10, lq11, lq40, lq59, lq60, lq61, lq100, lq500, lq2600, lq5208, lq1000000, ltT, ltF, leT, leF, eqT, eqF, lt0F, le0F, le0T, ge0T, eq0T, eq0F, eqm1F, ten0, m1lt0, eq_self, nI_add, nI_1, sub1, addm1, addm2, subn, cl0, cl1, ncl, ginT, gin0, gin1, ↓reduceIte, if_true, if_false, Nat.add_sub_cancel, obe, ↓gle, true_or, or_true]
def cod4 (R : Rw) : Prop := ∀ c ∈ R, c < 4 ∨ (10 ≤ c ∧ c < 100)
theorem vars_L {A : gM} {p : Nat} {R : Rw} (hp : p < 40) (hR : rowIn A (45 + p) R) (hc : cod4 R) (hl : R.length ≤ 60) : ∀ (f i m : Nat), i ≤ R.length → R.length - i < f → m ≤ 1000 → mX3_variablesIn_L5 f A (nI p) (nI R.length) (nI m) (nI i) = some (A, nI ((R.drop i).foldl (fun m c => max m (c - 9)) m))
  | 0, i, m, _, hf, _ => by omega
  | f + 1, i, m, hi, hf, hm => by
    show mX3_variablesIn_b5 (mX3_variablesIn_L5 f) A (nI p) (nI R.length) (nI m) (nI i) = _
    by_cases e : i = R.length
    · rw [e, vars_end hl, List.drop_length]; rfl
    · obtain ⟨c, hg, hd, hcR⟩ := drop_at (R := R) (k := i) (by omega)
      have hb := hc c hcR
      rw [vars_step hp hl (by omega) (hR i c hg) (by omega) (by omega), vars_L hp hR hc hl f (i + 1) _ (by omega) (by omega) (by omega), hd]
      rfl
theorem variablesIn_ok {A : gM} {p : Nat} {R : Rw} (hp : p < 40) (hR : rowIn A (45 + p) R) (hc : cod4 R) (hl : R.length ≤ 60) : mX3_variablesIn A (nI p) (nI R.length) = some (A, nI (vrs R)) := by
  unfold mX3_variablesIn mX3_variablesIn_b0
  rw [show (0 : Int32) = nI 0 from nI0.symm, vars_L hp hR hc hl gF 0 0 (by omega) (by unfold gF; omega) (by omega), List.drop_zero]
  rfl
/-! depth -/
def stkD (A : gM) : List Nat → Prop
  | [] => True
  | d :: st => A 126 st.length = nI d ∧ stkD A st
theorem stkD_same {A A' : gM} : ∀ {st : List Nat}, (∀ j, j < st.length → A' 126 j = A 126 j) → stkD A st → stkD A' st
  | [], _, _ => trivial
  | n :: st, h, q => ⟨by rw [h st.length (by simp)]; exact q.1, stkD_same (fun j hj => h j (by simp; omega)) q.2⟩
theorem isPair3T {A : gM} {c : Nat} (hc : c = 2 ∨ c = 3) : mX3_isPair A (nI c) = some (A, 1) := by
  rcases hc with rfl | rfl
  · rfl
  · rfl
theorem isPair3F {A : gM} {c : Nat} (h2 : c ≠ 2) (h3 : c ≠ 3) (hb : c ≤ 2000000) : mX3_isPair A (nI c) = some (A, 0) := by
  unfold mX3_isPair mX3_isPair_b0 mX3_isPair_b15
  simp (disch := omega) only [lq2, lq3, lq4, lq5, lq6, lq7, lq8, lq9, lq10, lq11, lq40, lq59, lq60, lq61, lq100, lq500, lq2600, lq5208, lq1000000, ltT, ltF, leT, leF, eqT, eqF, lt0F, le0F, le0T, ge0T, eq0T, eq0F, eqm1F, ten0, m1lt0, eq_self, nI_add, nI_1, sub1, addm1, addm2, subn, cl0, cl1, ncl, ginT, gin0, gin1, ↓reduceIte, if_true, if_false, Nat.add_sub_cancel, obe, ↓gle, true_or, or_true]
theorem depth_60 {K : gM → Int32 → Int32 → Int32 → Option (gM × Int32)} {A : gM} {p t k d : Nat} (ht : t < 60) : mX3_depthOf_b60 K A (nI p) (nI t) (nI k) (nI d) = K (g_up A 126 t (nI d)) (nI p) (nI (t + 1)) (nI k + (-1)) := by
  unfold mX3_depthOf_b60 mX3_depthOf_b77
  simp (disch := omega) only [lq2, lq3, lq4, lq5, lq6, lq7, lq8, lq9, lq10, lq11, lq40, lq59, lq60, lq61, lq100, lq500, lq2600, lq5208, lq1000000, ltT, ltF, leT, leF, eqT, eqF, lt0F, le0F, le0T, ge0T, eq0T, eq0F, eqm1F, ten0, m1lt0, eq_self, nI_add, nI_1, sub1, addm1, addm2, subn, cl0, cl1, ncl, ginT, gin0, gin1, ↓reduceIte, if_true, if_false, Nat.add_sub_cancel, obe, ↓gle, true_or, or_true]
theorem depth_leaf {K : gM → Int32 → Int32 → Int32 → Option (gM × Int32)} {A : gM} {p t k c : Nat} (hp : p < 40) (hk : k < 60) (ht : t < 60) (hA : A (45 + p) k = nI c) (h2 : c ≠ 2) (h3 : c ≠ 3) (hb : c ≤ 3000) : mX3_depthOf_b7 K A (nI p) (nI t) (nI k) = K (g_up A 126 t (nI 1)) (nI p) (nI (t + 1)) (nI k + (-1)) := by
  have h1 := codeAt_k (A := A) (p := p) (i := k) hp hk
  rw [hA] at h1
  unfold mX3_depthOf_b7
  simp (disch := omega) only [lq2, lq3, lq4, lq5, lq6, lq7, lq8, lq9, lq10, lq11, lq40, lq59, lq60, lq61, lq100, lq500, lq2600, lq5208, lq1000000, ltT, ltF, leT, leF, eqT, eqF, lt0F, le0F, le0T, ge0T, eq0T, eq0F, eqm1F, ten0, m1lt0, eq_self, nI_add, nI_1, sub1, addm1, addm2, subn, cl0, cl1, ncl, ginT, gin0, gin1, ↓reduceIte, if_true, if_false, Nat.add_sub_cancel, obe, ↓gle, true_or, or_true, ↓(bnd h1), isPair3F]
  rw [one_nI]; exact depth_60 ht
theorem depth_low {K : gM → Int32 → Int32 → Int32 → Option (gM × Int32)} {A : gM} {p t k c : Nat} (hp : p < 40) (hk : k < 60) (ht : t < 2) (hA : A (45 + p) k = nI c) (h2 : c = 2 ∨ c = 3) : mX3_depthOf_b7 K A (nI p) (nI t) (nI k) = K (g_up A 126 t (nI 1)) (nI p) (nI (t + 1)) (nI k + (-1)) := by
  have h1 := codeAt_k (A := A) (p := p) (i := k) hp hk
  rw [hA] at h1
  unfold mX3_depthOf_b7
  simp (disch := omega) only [lq2, lq3, lq4, lq5, lq6, lq7, lq8, lq9, lq10, lq11, lq40, lq59, lq60, lq61, lq100, lq500, lq2600, lq5208, lq1000000, ltT, ltF, leT, leF, eqT, eqF, lt0F, le0F, le0T, ge0T, eq0T, eq0F, eqm1F, ten0, m1lt0, eq_self, nI_add, nI_1, sub1, addm1, addm2, subn, cl0, cl1, ncl, ginT, gin0, gin1, ↓reduceIte, if_true, if_false, Nat.add_sub_cancel, obe, ↓gle, true_or, or_true, ↓(bnd h1), isPair3T]
  rw [one_nI]; exact depth_60 (by omega)
theorem max_n {a b : Nat} (ha : a ≤ 1000) (hb : b ≤ 1000) : (if nI a < nI b then nI b else nI a) = nI (max a b) := by
  by_cases q : a < b
  · rw [if_pos (by rw [nlt (by omega) (by omega)]; exact q), show max a b = b by omega]
  · rw [if_neg (by rw [nlt (by omega) (by omega)]; exact q), show max a b = a by omega]
theorem depth_pair {K : gM → Int32 → Int32 → Int32 → Option (gM × Int32)} {A : gM} {p t k c a b : Nat} (hp : p < 40) (hk : k < 60) (ht : t + 2 ≤ 60) (hA : A (45 + p) k = nI c) (h2 : c = 2 ∨ c = 3) (ha : A 126 (t + 1) = nI a) (hb : A 126 t = nI b) (ab : a ≤ 1000) (bb : b ≤ 1000) : mX3_depthOf_b7 K A (nI p) (nI (t + 2)) (nI k) = K (g_up A 126 t (nI (1 + max a b))) (nI p) (nI (t + 1)) (nI k + (-1)) := by
  have h1 := codeAt_k (A := A) (p := p) (i := k) hp hk
  rw [hA] at h1
  have e1 : t + 2 - 1 = t + 1 := by omega
  have e2 := max_n ab bb
  have e3 : (1 : Int32) + nI (max a b) = nI (1 + max a b) := by rw [one_nI, nI_add]
  unfold mX3_depthOf_b7
  simp (disch := omega) only [lq2, lq3, lq4, lq5, lq6, lq7, lq8, lq9, lq10, lq11, lq40, lq59, lq60, lq61, lq100, lq500, lq2600, lq5208, lq1000000, ltT, ltF, leT, leF, eqT, eqF, lt0F, le0F, le0T, ge0T, eq0T, eq0F, eqm1F, ten0, m1lt0, eq_self, nI_add, nI_1, sub1, addm1, addm2, subn, cl0, cl1, ncl, ginT, gin0, gin1, ↓reduceIte, if_true, if_false, Nat.add_sub_cancel, obe, ↓gle, true_or, or_true, ↓(bnd h1), isPair3T, e1, ha, hb]
  rw [e2, e3]; exact depth_60 (by omega)
theorem depth_end {K : gM → Int32 → Int32 → Int32 → Option (gM × Int32)} {A : gM} {p : Nat} {st : List Nat} (hs : stkD A st) (hl : st.length ≤ 60) : mX3_depthOf_b7 K A (nI p) (nI st.length) (nI 0 + (-1)) = some (A, nI (st.headD 0)) := by
  unfold mX3_depthOf_b7 mX3_depthOf_b99
  rw [show nI 0 + (-1) = (-1 : Int32) by decide +kernel, if_pos (by decide)]
  cases st with
  | nil =>
    rw [List.length_nil, if_pos (by decide)]; rfl
  | cons d st =>
    have h0 := hs.1
    rw [List.length_cons] at hl ⊢
    simp (disch := omega) only [lq2, lq3, lq4, lq5, lq6, lq7, lq8, lq9, lq10, lq11, lq40, lq59, lq60, lq61, lq100, lq500, lq2600, lq5208, lq1000000, ltT, ltF, leT, leF, eqT, eqF, lt0F, le0F, le0T, ge0T, eq0T, eq0F, eqm1F, ten0, m1lt0, eq_self, nI_add, nI_1, sub1, addm1, addm2, subn, cl0, cl1, ncl, ginT, gin0, gin1, ↓reduceIte, if_true, if_false, Nat.add_sub_cancel, obe, ↓gle, true_or, or_true, h0]
    rfl
theorem dst_b : ∀ (r : Rw), ∀ d ∈ dst r, d ≤ r.length
  | [], d, h => by cases h
  | c :: r, d, h => by
    have ih := dst_b r
    have h' : d ∈ (if c = 2 ∨ c = 3 then (match dst r with | a :: b :: st => (1 + max a b) :: st | st => 1 :: st) else 1 :: dst r) := h
    rw [List.length_cons]
    by_cases q : c = 2 ∨ c = 3
    · rw [if_pos q] at h'
      split at h'
      · rename_i a b st e
        rw [e] at ih
        have i1 := ih a List.mem_cons_self
        have i2 := ih b (List.mem_cons_of_mem _ List.mem_cons_self)
        rcases List.mem_cons.mp h' with rfl | h'
        · omega
        · have := ih d (List.mem_cons_of_mem _ (List.mem_cons_of_mem _ h')); omega
      · rcases List.mem_cons.mp h' with rfl | h'
        · omega
        · have := ih d h'; omega
    · rw [if_neg q] at h'
      rcases List.mem_cons.mp h' with rfl | h'
      · omega
      · have := ih d h'; omega
theorem depth_L {p : Nat} {R : Rw} (hp : p < 40) (hc : cod4 R) (hl : R.length ≤ 60) : ∀ (f k : Nat) (A : gM), rowIn A (45 + p) R → k ≤ R.length → k < f → stkD A (dst (R.drop k)) → ∃ A', mX3_depthOf_L7 f A (nI p) (nI (dst (R.drop k)).length) (nI k + (-1)) = some (A', nI (dep R)) ∧ ∀ a x, a ≠ 126 → A' a x = A a x
  | 0, k, A, _, _, hf, _ => by omega
  | f + 1, 0, A, hR, _, _, hs => ⟨A, by
      show mX3_depthOf_b7 (mX3_depthOf_L7 f) A (nI p) (nI (dst (R.drop 0)).length) (nI 0 + (-1)) = _
      rw [depth_end hs (by have := dst_len (R.drop 0); rw [List.length_drop] at this; omega), List.drop_zero]; rfl, fun _ _ _ => rfl⟩
  | f + 1, k + 1, A, hR, hk, hf, hs => by
    obtain ⟨c, hg, hd, hcR⟩ := drop_at (R := R) (k := k) (by omega)
    have hb := hc c hcR
    have hA := hR k c hg
    have hlen := dst_len (R.drop (k + 1))
    rw [List.length_drop] at hlen
    have hdb := dst_b (R.drop (k + 1))
    rw [List.length_drop] at hdb
    have go : ∀ (t : List Nat) (d : Nat), dst (R.drop k) = d :: t → stkD A t → t.length < 60 → (∀ K, mX3_depthOf_b7 K A (nI p) (nI (dst (R.drop (k + 1))).length) (nI k) = K (g_up A 126 t.length (nI d)) (nI p) (nI (t.length + 1)) (nI k + (-1))) →
        ∃ A', mX3_depthOf_L7 (f + 1) A (nI p) (nI (dst (R.drop (k + 1))).length) (nI (k + 1) + (-1)) = some (A', nI (dep R)) ∧ ∀ a x, a ≠ 126 → A' a x = A a x := by
      intro t d ed ht htl hK
      obtain ⟨A', e1, e2⟩ := depth_L hp hc hl f k (g_up A 126 t.length (nI d)) (fun i c hi => by rw [up_c (by omega)]; exact hR i c hi) (by omega) (by omega) (by rw [ed]; exact ⟨up_s, stkD_same (fun j hj => up_p (by omega)) ht⟩)
      refine ⟨A', ?_, fun a x q => by rw [e2 a x q, up_c q]⟩
      show mX3_depthOf_b7 (mX3_depthOf_L7 f) A (nI p) (nI (dst (R.drop (k + 1))).length) (nI (k + 1) + (-1)) = _
      rw [show nI (k + 1) + (-1) = nI k by rw [addm1 (k := k + 1) (by omega), Nat.add_sub_cancel], hK]
      rw [ed] at e1
      exact e1
    by_cases q : c = 2 ∨ c = 3
    · have ed : dst (R.drop k) = (match dst (R.drop (k + 1)) with | a :: b :: st => (1 + max a b) :: st | st => 1 :: st) := by
        rw [hd]
        show (if c = 2 ∨ c = 3 then _ else _) = _
        rw [if_pos q]
        rfl
      cases hst : dst (R.drop (k + 1)) with
      | nil =>
        rw [hst] at ed hs
        have := go [] 1 ed trivial (by simp) (fun K => by rw [hst]; exact depth_low hp (by omega) (by simp) hA q)
        rw [hst] at this; exact this
      | cons a st1 =>
        cases st1 with
        | nil =>
          rw [hst] at ed hs
          have := go [a] 1 ed hs (by simp) (fun K => by rw [hst]; exact depth_low hp (by omega) (by simp) hA q)
          rw [hst] at this; exact this
        | cons b st =>
          rw [hst] at ed hs hlen hdb
          simp only [List.length_cons] at hlen
          have h1 := hdb a List.mem_cons_self
          have h2 := hdb b (List.mem_cons_of_mem _ List.mem_cons_self)
          have := go st (1 + max a b) ed hs.2.2 (by omega) (fun K => by rw [hst]; exact depth_pair hp (by omega) (by omega) hA q hs.1 hs.2.1 (by omega) (by omega))
          rw [hst] at this; exact this
    · have ed : dst (R.drop k) = 1 :: dst (R.drop (k + 1)) := by
        rw [hd]
        show (if c = 2 ∨ c = 3 then _ else _) = _
        rw [if_neg q]
      exact go _ 1 ed hs (by omega) (fun K => depth_leaf hp (by omega) (by omega) hA (by omega) (by omega) (by omega))
theorem depthOf_ok {A : gM} {p : Nat} {R : Rw} (hp : p < 40) (hR : rowIn A (45 + p) R) (hc : cod4 R) (hl : R.length ≤ 60) : ∃ A', mX3_depthOf A (nI p) (nI R.length) = some (A', nI (dep R)) ∧ ∀ a x, a ≠ 126 → A' a x = A a x := by
  obtain ⟨A', e1, e2⟩ := depth_L hp hc hl gF R.length A hR (Nat.le_refl _) (by unfold gF; omega) (by rw [List.drop_length]; trivial)
  rw [List.drop_length] at e1
  refine ⟨A', ?_, e2⟩
  unfold mX3_depthOf mX3_depthOf_b0
  rw [gle, Int32.sub_eq_add_neg]
  exact e1
/-- what is kept of a part: its fault and place, or its row -/
def kept (A : gM) (p : Nat) (f q : Int32) (R : Rw) : Prop := A (86 + p) 0 = f ∧ A (86 + p) 1 = q ∧ A (86 + p) 2 = nI R.length ∧ A (86 + p) 3 = nI (vrs R) ∧ A (86 + p) 4 = nI (dep R) ∧ rowIn A (45 + p) R
theorem putFacts_ok {A : gM} {p : Nat} {f q : Int32} {R : Rw} (hp : p < 40) (hR : rowIn A (45 + p) R) (hc : cod4 R) (hl : R.length ≤ 60) : ∃ A', mX3_putFacts A (nI p) f q (nI R.length) = some A' ∧ kept A' p f q R ∧ ∀ a x, a ≠ 126 → a ≠ 86 + p → A' a x = A a x := by
  obtain ⟨A3, h3⟩ : ∃ A3, A3 = g_up (g_up (g_up A (86 + p) 0 f) (86 + p) 1 q) (86 + p) 2 (nI R.length) := ⟨_, rfl⟩
  have o3 : ∀ a x, a ≠ 86 + p → A3 a x = A a x := fun a x z => by rw [h3, up_c z, up_c z, up_c z]
  have hv := variablesIn_ok (A := A3) hp (fun i c hi => by rw [o3 _ _ (by omega)]; exact hR i c hi) hc hl
  obtain ⟨A5, h5⟩ : ∃ A5, A5 = g_up A3 (86 + p) 3 (nI (vrs R)) := ⟨_, rfl⟩
  have o5 : ∀ a x, a ≠ 86 + p → A5 a x = A a x := fun a x z => by rw [h5, up_c z, o3 a x z]
  obtain ⟨A6, e6, o6⟩ := depthOf_ok (A := A5) hp (fun i c hi => by rw [o5 _ _ (by omega)]; exact hR i c hi) hc hl
  rw [h3] at hv
  rw [h5, h3] at e6
  refine ⟨g_up A6 (86 + p) 4 (nI (dep R)), ?_, ⟨?_, ?_, ?_, ?_, up_s, fun i c hi => by rw [up_c (by omega), o6 _ _ (by omega), o5 _ _ (by omega)]; exact hR i c hi⟩, fun a x z1 z2 => by rw [up_c z2, o6 a x z1, o5 a x z2]⟩
  · have g0 : g_in 0 5 = true := by decide
    have g1 : g_in 1 5 = true := by decide
    have g2 : g_in (nI 2) 5 = true := by decide +kernel
    have g3 : g_in (nI 3) 5 = true := by decide +kernel
    have g4 : g_in (nI 4) 5 = true := by decide +kernel
    unfold mX3_putFacts mX3_putFacts_b0
    simp (disch := omega) only [lq2, lq3, lq4, lq5, lq6, lq7, lq8, lq9, lq10, lq11, lq40, lq59, lq60, lq61, lq100, lq500, lq2600, lq5208, lq1000000, ltT, ltF, leT, leF, eqT, eqF, lt0F, le0F, le0T, ge0T, eq0T, eq0F, eqm1F, ten0, m1lt0, eq_self, nI_add, nI_1, sub1, addm1, addm2, subn, cl0, cl1, ncl, ginT, gin0, gin1, ↓reduceIte, if_true, if_false, Nat.add_sub_cancel, obe, ↓gle, true_or, or_true, g0, g1, g2, g3, g4, hv, e6]
  · rw [up_p (by omega), o6 _ _ (by omega), h5, up_p (by omega), h3, up_p (by omega), up_p (by omega), up_s]
  · rw [up_p (by omega), o6 _ _ (by omega), h5, up_p (by omega), h3, up_p (by omega), up_s]
  · rw [up_p (by omega), o6 _ _ (by omega), h5, up_p (by omega), h3, up_s]
  · rw [up_p (by omega), o6 _ _ (by omega), h5, up_s]
theorem putFault_ok {A : gM} {p : Nat} {f q : Int32} (hp : p < 40) : ∃ A', mX3_putFault A (nI p) f q = some A' ∧ kept A' p f q [] ∧ ∀ a x, a ≠ 126 → a ≠ 86 + p → A' a x = A a x := by
  obtain ⟨A', e, h1, h2⟩ := putFacts_ok (A := A) (f := f) (q := q) (R := []) hp (fun i c hi => by simp at hi) (fun c hc => by cases hc) (by simp)
  refine ⟨A', ?_, h1, h2⟩
  have e' : mX3_putFacts A (nI p) f q 0 = some A' := by rw [show (0 : Int32) = nI 0 from nI0.symm]; exact e
  unfold mX3_putFault mX3_putFault_b0
  rw [e']; exact obe
theorem prow_step {K : gM → Int32 → Int32 → Nat → Int32 → Option gM} {A : gM} {p L x4 i : Nat} (hi : i < L) (hL : L ≤ 60) : mX3_putRow_b22 K A (nI p) (nI L) x4 (nI i) = K (g_up A x4 i (A 182 i)) (nI p) (nI L) x4 (nI (i + 1)) := by
  unfold mX3_putRow_b22
  simp (disch := omega) only [lq2, lq3, lq4, lq5, lq6, lq7, lq8, lq9, lq10, lq11, lq40, lq59, lq60, lq61, lq100, lq500, lq2600, lq5208, lq1000000, ltT, ltF, leT, leF, eqT, eqF, lt0F, le0F, le0T, ge0T, eq0T, eq0F, eqm1F, ten0, m1lt0, eq_self, nI_add, nI_1, sub1, addm1, addm2, subn, cl0, cl1, ncl, ginT, gin0, gin1, ↓reduceIte, if_true, if_false, Nat.add_sub_cancel, obe, ↓gle, true_or, or_true]
theorem prow_last {K : gM → Int32 → Int32 → Nat → Int32 → Option gM} {A : gM} {p L x4 : Nat} (hL : L ≤ 60) : mX3_putRow_b22 K A (nI p) (nI L) x4 (nI L) = mX3_putFacts A (nI p) 0 (-1) (nI L) := by
  unfold mX3_putRow_b22 mX3_putRow_b58
  rw [if_pos (by rw [nle (by omega) (by omega)]; omega), lq60, if_neg (by rw [nlt (by omega) (by omega)]; omega)]
  cases mX3_putFacts A (nI p) 0 (-1) (nI L) with
  | none => rfl
  | some q => rfl
theorem prow_L {p : Nat} {R : Rw} (hp : p < 40) (hc : cod4 R) (hl : R.length ≤ 60) : ∀ (f i : Nat) (A : gM), rowIn A 182 R → i ≤ R.length → R.length - i < f → (∀ j c, j < i → R[j]? = some c → A (45 + p) j = nI c) → ∃ A', mX3_putRow_L22 f A (nI p) (nI R.length) (45 + p) (nI i) = some A' ∧ kept A' p 0 (-1) R ∧ ∀ a x, a ≠ 126 → a ≠ 86 + p → a ≠ 45 + p → A' a x = A a x
  | 0, i, A, _, _, hf, _ => by omega
  | f + 1, i, A, hr, hi, hf, hd => by
    show ∃ A', mX3_putRow_b22 (mX3_putRow_L22 f) A (nI p) (nI R.length) (45 + p) (nI i) = some A' ∧ _
    by_cases e : i = R.length
    · subst e
      obtain ⟨A', e1, e2, e3⟩ := putFacts_ok (A := A) (f := 0) (q := -1) hp (fun j c hj => hd j c (List.getElem?_eq_some_iff.mp hj).1 hj) hc hl
      exact ⟨A', by rw [prow_last hl]; exact e1, e2, fun a x q1 q2 _ => e3 a x q1 q2⟩
    · rw [prow_step (by omega) hl]
      obtain ⟨A', e1, e2, e3⟩ := prow_L hp hc hl f (i + 1) (g_up A (45 + p) i (A 182 i)) (fun j c hj => by rw [up_c (by omega)]; exact hr j c hj) (by omega) (by omega) (fun j c hj hjc => by
        by_cases z : j = i
        · subst z; rw [up_s]; exact hr j c hjc
        · rw [up_p z]; exact hd j c (by omega) hjc)
      exact ⟨A', e1, e2, fun a x q1 q2 q3 => by rw [e3 a x q1 q2 q3, up_c q3]⟩
theorem putRow_ok {A : gM} {p : Nat} {R : Rw} (hp : p < 40) (hr : rowIn A 182 R) (hc : cod4 R) (hl : R.length ≤ 60) : ∃ A', mX3_putRow A (nI p) (nI R.length) = some A' ∧ kept A' p 0 (-1) R ∧ ∀ a x, a ≠ 126 → a ≠ 86 + p → a ≠ 45 + p → A' a x = A a x := by
  obtain ⟨A', e1, e2, e3⟩ := prow_L hp hc hl gF 0 A hr (by omega) (by unfold gF; omega) (fun j c hj => by omega)
  refine ⟨A', ?_, e2, e3⟩
  rw [nI0] at e1
  unfold mX3_putRow mX3_putRow_b0
  simp (disch := omega) only [lq2, lq3, lq4, lq5, lq6, lq7, lq8, lq9, lq10, lq11, lq40, lq59, lq60, lq61, lq100, lq500, lq2600, lq5208, lq1000000, ltT, ltF, leT, leF, eqT, eqF, lt0F, le0F, le0T, ge0T, eq0T, eq0F, eqm1F, ten0, m1lt0, eq_self, nI_add, nI_1, sub1, addm1, addm2, subn, cl0, cl1, ncl, ginT, gin0, gin1, ↓reduceIte, if_true, if_false, Nat.add_sub_cancel, obe, ↓gle, true_or, or_true]
  exact e1
