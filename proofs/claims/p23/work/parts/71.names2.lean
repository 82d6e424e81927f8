/-! THE CLASS'S NAMES, AND THE PARTS ON BOTH SIDES -/
theorem mul6 {p : Nat} : (6 : Int32) * nI p = nI (6 * p) := by
  rw [lq6]; exact (Int32.ofNat_mul 6 p).symm
theorem fact_w {A : gM} {np p w : Nat} (h1 : A 1 1 = nI np) (hp : p < np) (hn : np ≤ 40) (hw : w < 7) : mX2_fact A (nI p) (nI w) = some (A, A (3 + p) w) := by
  unfold mX2_fact mX2_fact_b0 mX2_fact_b23 mX2_fact_b50
  simp (disch := omega) only [lq2, lq3, lq4, lq5, lq6, lq7, lq8, lq9, lq10, lq11, lq40, lq59, lq60, lq61, lq100, lq500, lq2600, lq5208, lq1000000, ltT, ltF, leT, leF, eqT, eqF, lt0F, le0F, le0T, ge0T, eq0T, eq0F, eqm1F, ten0, m1lt0, eq_self, nI_add, nI_1, sub1, addm1, addm2, subn, cl0, cl1, ncl, ginT, gin0, gin1, ↓reduceIte, if_true, if_false, Nat.add_sub_cancel, obe, ↓gle, true_or, or_true, h1]
theorem pa_w {cp : Nat} {A : gM} {p w : Nat} (hp : p ≤ 40) (hw : w < 6) : mX6_pa cp A (nI p) (nI w) = some (A, A 184 (6 * p + w)) := by
  unfold mX6_pa mX6_pa_b0
  rw [mul6]
  simp (disch := omega) only [lq2, lq3, lq4, lq5, lq6, lq7, lq8, lq9, lq10, lq11, lq40, lq59, lq60, lq61, lq100, lq500, lq2600, lq5208, lq1000000, ltT, ltF, leT, leF, eqT, eqF, lt0F, le0F, le0T, ge0T, eq0T, eq0F, eqm1F, ten0, m1lt0, eq_self, nI_add, nI_1, sub1, addm1, addm2, subn, cl0, cl1, ncl, ginT, gin0, gin1, ↓reduceIte, if_true, if_false, Nat.add_sub_cancel, obe, ↓gle, true_or, or_true]
theorem fact_0 {A : gM} {np p : Nat} (h1 : A 1 1 = nI np) (hp : p < np) (hn : np ≤ 40) : mX2_fact A (nI p) 0 = some (A, A (3 + p) 0) := by
  rw [show (0 : Int32) = nI 0 from nI0.symm]; exact fact_w h1 hp hn (by omega)
theorem pa_0 {cp : Nat} {A : gM} {p : Nat} (hp : p ≤ 40) : mX6_pa cp A (nI p) 0 = some (A, A 184 (6 * p + 0)) := by
  rw [show (0 : Int32) = nI 0 from nI0.symm]; exact pa_w hp (by omega)
theorem fact_1 {A : gM} {np p : Nat} (h1 : A 1 1 = nI np) (hp : p < np) (hn : np ≤ 40) : mX2_fact A (nI p) 1 = some (A, A (3 + p) 1) := by
  rw [show (1 : Int32) = nI 1 from one_nI]; exact fact_w h1 hp hn (by omega)
theorem pa_1 {cp : Nat} {A : gM} {p : Nat} (hp : p ≤ 40) : mX6_pa cp A (nI p) 1 = some (A, A 184 (6 * p + 1)) := by
  rw [show (1 : Int32) = nI 1 from one_nI]; exact pa_w hp (by omega)
theorem fact_2 {A : gM} {np p : Nat} (h1 : A 1 1 = nI np) (hp : p < np) (hn : np ≤ 40) : mX2_fact A (nI p) 2 = some (A, A (3 + p) 2) := by
  rw [show (2 : Int32) = nI 2 from lq2]; exact fact_w h1 hp hn (by omega)
theorem pa_2 {cp : Nat} {A : gM} {p : Nat} (hp : p ≤ 40) : mX6_pa cp A (nI p) 2 = some (A, A 184 (6 * p + 2)) := by
  rw [show (2 : Int32) = nI 2 from lq2]; exact pa_w hp (by omega)
theorem fact_3 {A : gM} {np p : Nat} (h1 : A 1 1 = nI np) (hp : p < np) (hn : np ≤ 40) : mX2_fact A (nI p) 3 = some (A, A (3 + p) 3) := by
  rw [show (3 : Int32) = nI 3 from lq3]; exact fact_w h1 hp hn (by omega)
theorem pa_3 {cp : Nat} {A : gM} {p : Nat} (hp : p ≤ 40) : mX6_pa cp A (nI p) 3 = some (A, A 184 (6 * p + 3)) := by
  rw [show (3 : Int32) = nI 3 from lq3]; exact pa_w hp (by omega)
theorem fact_4 {A : gM} {np p : Nat} (h1 : A 1 1 = nI np) (hp : p < np) (hn : np ≤ 40) : mX2_fact A (nI p) 4 = some (A, A (3 + p) 4) := by
  rw [show (4 : Int32) = nI 4 from lq4]; exact fact_w h1 hp hn (by omega)
theorem pa_4 {cp : Nat} {A : gM} {p : Nat} (hp : p ≤ 40) : mX6_pa cp A (nI p) 4 = some (A, A 184 (6 * p + 4)) := by
  rw [show (4 : Int32) = nI 4 from lq4]; exact pa_w hp (by omega)
theorem nput_b67 {A : gM} {l L ar x4 : Nat} (h3 : A 138 3 = nI ar) (har : ar < 40) (hL : L ≤ 60) : mX1_put_b67 A (nI l) (nI L) x4 = some (g_up (g_up (g_up A 139 ar (nI l)) 181 ar (nI L)) 138 3 (nI (ar + 1))) := by
  unfold mX1_put_b67
  simp (disch := omega) only [lq2, lq3, lq4, lq5, lq6, lq7, lq8, lq9, lq10, lq11, lq40, lq59, lq60, lq61, lq100, lq500, lq2600, lq5208, lq1000000, ltT, ltF, leT, leF, eqT, eqF, lt0F, le0F, le0T, ge0T, eq0T, eq0F, eqm1F, ten0, m1lt0, eq_self, nI_add, nI_1, sub1, addm1, addm2, subn, cl0, cl1, ncl, ginT, gin0, gin1, ↓reduceIte, if_true, if_false, Nat.add_sub_cancel, obe, ↓gle, true_or, or_true, upS, up_c, up_p, h3]
theorem nput_step {K : gM → Int32 → Int32 → Nat → Int32 → Option gM} {A : gM} {l L x4 i : Nat} (hi : i < L) (hL : L ≤ 60) : mX1_put_b31 K A (nI l) (nI L) x4 (nI i) = K (g_up A x4 i (A 182 i)) (nI l) (nI L) x4 (nI (i + 1)) := by
  unfold mX1_put_b31
  simp (disch := omega) only [lq2, lq3, lq4, lq5, lq6, lq7, lq8, lq9, lq10, lq11, lq40, lq59, lq60, lq61, lq100, lq500, lq2600, lq5208, lq1000000, ltT, ltF, leT, leF, eqT, eqF, lt0F, le0F, le0T, ge0T, eq0T, eq0F, eqm1F, ten0, m1lt0, eq_self, nI_add, nI_1, sub1, addm1, addm2, subn, cl0, cl1, ncl, ginT, gin0, gin1, ↓reduceIte, if_true, if_false, Nat.add_sub_cancel, obe, ↓gle, true_or, or_true]
theorem nput_last {K : gM → Int32 → Int32 → Nat → Int32 → Option gM} {A : gM} {l L x4 : Nat} (hL : L ≤ 60) : mX1_put_b31 K A (nI l) (nI L) x4 (nI L) = mX1_put_b67 A (nI l) (nI L) x4 := by
  unfold mX1_put_b31
  simp (disch := omega) only [lq2, lq3, lq4, lq5, lq6, lq7, lq8, lq9, lq10, lq11, lq40, lq59, lq60, lq61, lq100, lq500, lq2600, lq5208, lq1000000, ltT, ltF, leT, leF, eqT, eqF, lt0F, le0F, le0T, ge0T, eq0T, eq0F, eqm1F, ten0, m1lt0, eq_self, nI_add, nI_1, sub1, addm1, addm2, subn, cl0, cl1, ncl, ginT, gin0, gin1, ↓reduceIte, if_true, if_false, Nat.add_sub_cancel, obe, ↓gle, true_or, or_true]
theorem nput_L {l L ar : Nat} (har : ar < 40) (hL : L ≤ 60) : ∀ (f i : Nat) (A : gM), A 138 3 = nI ar → i ≤ L → L - i < f → ∃ A', mX1_put_L31 f A (nI l) (nI L) (141 + ar) (nI i) = some A' ∧ A' 139 ar = nI l ∧ A' 181 ar = nI L ∧ A' 138 3 = nI (ar + 1) ∧ (∀ j, i ≤ j → j < L → A' (141 + ar) j = A 182 j) ∧ (∀ j, j < i → A' (141 + ar) j = A (141 + ar) j) ∧ ∀ a x, a ≠ 141 + ar → ¬ (a = 139 ∧ x = ar) → ¬ (a = 181 ∧ x = ar) → ¬ (a = 138 ∧ x = 3) → A' a x = A a x
  | 0, i, A, _, _, hf => by omega
  | f + 1, i, A, h3, hi, hf => by
    show ∃ A', mX1_put_b31 (mX1_put_L31 f) A (nI l) (nI L) (141 + ar) (nI i) = some A' ∧ _
    by_cases e : i = L
    · subst e
      rw [nput_last hL, nput_b67 h3 har hL]
      refine ⟨_, rfl, by rw [up_c (by omega), up_c (by omega), up_s], by rw [up_c (by omega), up_s], up_s, fun j h1 h2 => by omega, fun j hj => by rw [up_c (by omega), up_c (by omega), up_c (by omega)], fun a x h1 h2 h3 h4 => by rw [up_get, if_neg h4, up_get, if_neg h3, up_get, if_neg h2]⟩
    · rw [nput_step (by omega) hL]
      obtain ⟨A', e1, q1, q2, q3, q4, q5, q6⟩ := nput_L har hL f (i + 1) (g_up A (141 + ar) i (A 182 i)) (by rw [up_c (by omega)]; exact h3) (by omega) (by omega)
      refine ⟨A', e1, q1, q2, q3, fun j h1 h2 => ?_, fun j hj => by rw [q5 j (by omega), up_p (by omega)], fun a x h1 h2 h3 h4 => by rw [q6 a x h1 h2 h3 h4, up_c h1]⟩
      by_cases e2 : j = i
      · subst e2; rw [q5 j (by omega), up_s]
      · rw [q4 j (by omega) h2, up_c (by omega)]
theorem nput_ok {A : gM} {l ar : Nat} {R : Rw} (h3 : A 138 3 = nI ar) (har : ar < 40) (hL : R.length ≤ 60) (hr : rowIn A 182 R) : ∃ A', mX1_put A (nI l) (nI R.length) = some A' ∧ A' 139 ar = nI l ∧ A' 181 ar = nI R.length ∧ A' 138 3 = nI (ar + 1) ∧ rowIn A' (141 + ar) R ∧ ∀ a x, a ≠ 141 + ar → ¬ (a = 139 ∧ x = ar) → ¬ (a = 181 ∧ x = ar) → ¬ (a = 138 ∧ x = 3) → A' a x = A a x := by
  obtain ⟨A', e1, q1, q2, q3, q4, q5, q6⟩ := nput_L (l := l) har hL gF 0 A h3 (by omega) (by unfold gF; omega)
  refine ⟨A', ?_, q1, q2, q3, fun i c hi => ?_, q6⟩
  · unfold mX1_put mX1_put_b0
    simp (disch := omega) only [lq2, lq3, lq4, lq5, lq6, lq7, lq8, lq9, lq10, lq11, lq40, lq59, lq60, lq61, lq100, lq500, lq2600, lq5208, lq1000000, ltT, ltF, leT, leF, eqT, eqF, lt0F, le0F, le0T, ge0T, eq0T, eq0F, eqm1F, ten0, m1lt0, eq_self, nI_add, nI_1, sub1, addm1, addm2, subn, cl0, cl1, ncl, ginT, gin0, gin1, ↓reduceIte, if_true, if_false, Nat.add_sub_cancel, obe, ↓gle, true_or, or_true, h3]
    exact e1
  · have := (List.getElem?_eq_some_iff.mp hi).1
    rw [q4 i (by omega) this]; exact hr i c hi
theorem ndrop_ok {A : gM} {ar : Nat} (h3 : A 138 3 = nI (ar + 1)) (har : ar < 40) : mX1_dropLast A = some (g_up A 138 3 (nI ar)) := by
  unfold mX1_dropLast mX1_dropLast_b0 mX1_dropLast_b17
  simp (disch := omega) only [lq2, lq3, lq4, lq5, lq6, lq7, lq8, lq9, lq10, lq11, lq40, lq59, lq60, lq61, lq100, lq500, lq2600, lq5208, lq1000000, ltT, ltF, leT, leF, eqT, eqF, lt0F, le0F, le0T, ge0T, eq0T, eq0F, eqm1F, ten0, m1lt0, eq_self, nI_add, nI_1, sub1, addm1, addm2, subn, cl0, cl1, ncl, ginT, gin0, gin1, ↓reduceIte, if_true, if_false, Nat.add_sub_cancel, obe, ↓gle, true_or, or_true, h3]
/-- the latest of some labels that is l -/
def lastK (lb : Nat → Nat) (l : Nat) : Nat → Option Nat
  | 0 => none
  | k + 1 => if lb k = l then some k else lastK lb l k
theorem lastK_lt {lb : Nat → Nat} {l : Nat} : ∀ {n k : Nat}, lastK lb l n = some k → k < n ∧ lb k = l
  | 0, k, h => by cases h
  | n + 1, k, h => by
    unfold lastK at h
    by_cases e : lb n = l
    · rw [if_pos e] at h; cases h; exact ⟨by omega, e⟩
    · rw [if_neg e] at h; have := lastK_lt h; exact ⟨by omega, this.2⟩
theorem latest_hit {K : gM → Int32 → Int32 → Option (gM × Int32)} {A : gM} {l k : Nat} (hk : k < 40) (ha : A 139 k = nI l) : mX1_latest_b12 K A (nI l) (nI k) = some (A, nI k) := by
  unfold mX1_latest_b12
  simp (disch := omega) only [lq2, lq3, lq4, lq5, lq6, lq7, lq8, lq9, lq10, lq11, lq40, lq59, lq60, lq61, lq100, lq500, lq2600, lq5208, lq1000000, ltT, ltF, leT, leF, eqT, eqF, lt0F, le0F, le0T, ge0T, eq0T, eq0F, eqm1F, ten0, m1lt0, eq_self, nI_add, nI_1, sub1, addm1, addm2, subn, cl0, cl1, ncl, ginT, gin0, gin1, ↓reduceIte, if_true, if_false, Nat.add_sub_cancel, obe, ↓gle, true_or, or_true, ha]
theorem latest_go {K : gM → Int32 → Int32 → Option (gM × Int32)} {A : gM} {l m k : Nat} (hk : k < 40) (hm : m ≤ 9) (hl : l ≤ 9) (ha : A 139 k = nI m) (hne : m ≠ l) : mX1_latest_b12 K A (nI l) (nI k) = K A (nI l) (nI k + (-1)) := by
  unfold mX1_latest_b12
  simp (disch := omega) only [lq2, lq3, lq4, lq5, lq6, lq7, lq8, lq9, lq10, lq11, lq40, lq59, lq60, lq61, lq100, lq500, lq2600, lq5208, lq1000000, ltT, ltF, leT, leF, eqT, eqF, lt0F, le0F, le0T, ge0T, eq0T, eq0F, eqm1F, ten0, m1lt0, eq_self, nI_add, nI_1, sub1, addm1, addm2, subn, cl0, cl1, ncl, ginT, gin0, gin1, ↓reduceIte, if_true, if_false, Nat.add_sub_cancel, obe, ↓gle, true_or, or_true, ha]
theorem latest_end {K : gM → Int32 → Int32 → Option (gM × Int32)} {A : gM} {l : Nat} : mX1_latest_b12 K A (nI l) (nI 0 + (-1)) = some (A, -1) := by
  unfold mX1_latest_b12
  rw [show nI 0 + (-1) = (-1 : Int32) by decide +kernel, if_pos (by decide)]
def optI : Option Nat → Int32
  | none => -1
  | some k => nI k
theorem latest_L {A : gM} {lb : Nat → Nat} {l ar : Nat} (hl : l ≤ 9) (har : ar ≤ 40) (hlb : ∀ k, k < ar → A 139 k = nI (lb k) ∧ lb k ≤ 9) : ∀ f k, k ≤ ar → k < f → mX1_latest_L12 f A (nI l) (nI k + (-1)) = some (A, optI (lastK lb l k))
  | 0, k, _, hf => by omega
  | f + 1, 0, _, _ => latest_end
  | f + 1, k + 1, hk, hf => by
    show mX1_latest_b12 (mX1_latest_L12 f) A (nI l) (nI (k + 1) + (-1)) = _
    rw [addm1 (k := k + 1) (by omega), Nat.add_sub_cancel]
    obtain ⟨h1, h2⟩ := hlb k (by omega)
    unfold lastK
    by_cases e : lb k = l
    · rw [if_pos e]; exact latest_hit (by omega) (by rw [h1, e])
    · rw [if_neg e, latest_go (by omega) h2 hl h1 e]
      exact latest_L hl har hlb f k (by omega) (by omega)
theorem latest_ok {A : gM} {lb : Nat → Nat} {l ar : Nat} (h3 : A 138 3 = nI ar) (hl : l ≤ 9) (har : ar ≤ 40) (hlb : ∀ k, k < ar → A 139 k = nI (lb k) ∧ lb k ≤ 9) : mX1_latest A (nI l) = some (A, optI (lastK lb l ar)) := by
  unfold mX1_latest mX1_latest_b0
  rw [gle, h3, lq40, if_neg (by rw [nlt (by omega) (by omega)]; omega), Int32.sub_eq_add_neg]
  exact latest_L hl har hlb gF ar (by omega) (by unfold gF; omega)
theorem rowAt_ok {A : gM} {k : Nat} (hk : k < 40) : mX1_rowAt A (nI k) = some (A, 141 + k) := by
  unfold mX1_rowAt mX1_rowAt_b0 mX1_rowAt_b25
  simp (disch := omega) only [lq2, lq3, lq4, lq5, lq6, lq7, lq8, lq9, lq10, lq11, lq40, lq59, lq60, lq61, lq100, lq500, lq2600, lq5208, lq1000000, ltT, ltF, leT, leF, eqT, eqF, lt0F, le0F, le0T, ge0T, eq0T, eq0F, eqm1F, ten0, m1lt0, eq_self, nI_add, nI_1, sub1, addm1, addm2, subn, cl0, cl1, ncl, ginT, gin0, gin1, ↓reduceIte, if_true, if_false, Nat.add_sub_cancel, obe, ↓gle, true_or, or_true]
theorem lengthAt_ok {A : gM} {k : Nat} (hk : k < 40) : mX1_lengthAt A (nI k) = some (A, A 181 k) := by
  unfold mX1_lengthAt mX1_lengthAt_b0 mX1_lengthAt_b20
  simp (disch := omega) only [lq2, lq3, lq4, lq5, lq6, lq7, lq8, lq9, lq10, lq11, lq40, lq59, lq60, lq61, lq100, lq500, lq2600, lq5208, lq1000000, ltT, ltF, leT, leF, eqT, eqF, lt0F, le0F, le0T, ge0T, eq0T, eq0F, eqm1F, ten0, m1lt0, eq_self, nI_add, nI_1, sub1, addm1, addm2, subn, cl0, cl1, ncl, ginT, gin0, gin1, ↓reduceIte, if_true, if_false, Nat.add_sub_cancel, obe, ↓gle, true_or, or_true]
/-! MARKING ALL THAT IS AROUND -/
theorem ma_end {K6 : gM → Int32 → Option gM} {K30 : gM → Int32 → Nat → Int32 → Option gM} {A : gM} {k x3 L i : Nat} (hk : k < 40) (h1 : A 181 k = nI L) (hL : L ≤ i) (hi : i ≤ 60) : mX1_markAll_b30 K6 K30 A (nI k) x3 (nI i) = K6 A (nI (k + 1)) := by
  unfold mX1_markAll_b30 mX1_markAll_b77
  simp (disch := omega) only [lq2, lq3, lq4, lq5, lq6, lq7, lq8, lq9, lq10, lq11, lq40, lq59, lq60, lq61, lq100, lq500, lq2600, lq5208, lq1000000, ltT, ltF, leT, leF, eqT, eqF, lt0F, le0F, le0T, ge0T, eq0T, eq0F, eqm1F, ten0, m1lt0, eq_self, nI_add, nI_1, sub1, addm1, addm2, subn, cl0, cl1, ncl, ginT, gin0, gin1, ↓reduceIte, if_true, if_false, Nat.add_sub_cancel, obe, ↓gle, true_or, or_true, h1]
theorem ma_low {K6 : gM → Int32 → Option gM} {K30 : gM → Int32 → Nat → Int32 → Option gM} {A : gM} {k x3 L i c : Nat} (hk : k < 40) (h1 : A 181 k = nI L) (hi : i < L) (hL : L ≤ 60) (hc : A x3 i = nI c) (c1 : c < 100) : mX1_markAll_b30 K6 K30 A (nI k) x3 (nI i) = K30 A (nI k) x3 (nI (i + 1)) := by
  unfold mX1_markAll_b30 mX1_markAll_b71
  simp (disch := omega) only [lq2, lq3, lq4, lq5, lq6, lq7, lq8, lq9, lq10, lq11, lq40, lq59, lq60, lq61, lq100, lq500, lq2600, lq5208, lq1000000, ltT, ltF, leT, leF, eqT, eqF, lt0F, le0F, le0T, ge0T, eq0T, eq0F, eqm1F, ten0, m1lt0, eq_self, nI_add, nI_1, sub1, addm1, addm2, subn, cl0, cl1, ncl, ginT, gin0, gin1, ↓reduceIte, if_true, if_false, Nat.add_sub_cancel, obe, ↓gle, true_or, or_true, h1, hc, isNodeF]
theorem ma_node {K6 : gM → Int32 → Option gM} {K30 : gM → Int32 → Nat → Int32 → Option gM} {A A1 : gM} {k x3 L i c : Nat} (hk : k < 40) (h1 : A 181 k = nI L) (hi : i < L) (hL : L ≤ 60) (hc : A x3 i = nI c) (c1 : 100 ≤ c) (c2 : c ≤ 3000) (hm : mX4_markWithin A (nI (c - 100)) = some A1) : mX1_markAll_b30 K6 K30 A (nI k) x3 (nI i) = K30 A1 (nI k) x3 (nI (i + 1)) := by
  unfold mX1_markAll_b30 mX1_markAll_b71
  simp (disch := omega) only [lq2, lq3, lq4, lq5, lq6, lq7, lq8, lq9, lq10, lq11, lq40, lq59, lq60, lq61, lq100, lq500, lq2600, lq5208, lq1000000, ltT, ltF, leT, leF, eqT, eqF, lt0F, le0F, le0T, ge0T, eq0T, eq0F, eqm1F, ten0, m1lt0, eq_self, nI_add, nI_1, sub1, addm1, addm2, subn, cl0, cl1, ncl, ginT, gin0, gin1, ↓reduceIte, if_true, if_false, Nat.add_sub_cancel, obe, ↓gle, true_or, or_true, h1, hc, isNodeT, nodeOfCode_k, hm]
theorem ma_out {K6 : gM → Int32 → Option gM} {A : gM} {k ar : Nat} (h3 : A 138 3 = nI ar) (hk : k < ar) (har : ar ≤ 40) : mX1_markAll_b6 K6 A (nI k) = mX1_markAll_L30 K6 gF A (nI k) (141 + k) (nI 0) := by
  unfold mX1_markAll_b6
  simp (disch := omega) only [lq2, lq3, lq4, lq5, lq6, lq7, lq8, lq9, lq10, lq11, lq40, lq59, lq60, lq61, lq100, lq500, lq2600, lq5208, lq1000000, ltT, ltF, leT, leF, eqT, eqF, lt0F, le0F, le0T, ge0T, eq0T, eq0F, eqm1F, ten0, m1lt0, eq_self, nI_add, nI_1, sub1, addm1, addm2, subn, cl0, cl1, ncl, ginT, gin0, gin1, ↓reduceIte, if_true, if_false, Nat.add_sub_cancel, obe, ↓gle, true_or, or_true, h3, nI0]
theorem ma_stop {K6 : gM → Int32 → Option gM} {A : gM} {ar : Nat} (h3 : A 138 3 = nI ar) (har : ar ≤ 40) : mX1_markAll_b6 K6 A (nI ar) = some A := by
  unfold mX1_markAll_b6 mX1_markAll_b83
  simp (disch := omega) only [lq2, lq3, lq4, lq5, lq6, lq7, lq8, lq9, lq10, lq11, lq40, lq59, lq60, lq61, lq100, lq500, lq2600, lq5208, lq1000000, ltT, ltF, leT, leF, eqT, eqF, lt0F, le0F, le0T, ge0T, eq0T, eq0F, eqm1F, ten0, m1lt0, eq_self, nI_add, nI_1, sub1, addm1, addm2, subn, cl0, cl1, ncl, ginT, gin0, gin1, ↓reduceIte, if_true, if_false, Nat.add_sub_cancel, obe, ↓gle, true_or, or_true, h3]
def MKd (u : Nat) (T : Nat → Rw) (s : Nat) (A A' : gM) (X : Nat → Prop) : Prop := offM A A' ∧ stI A' s ∧ mkC A' u T ∧ ∀ v, v < u → T v = [100 + v] → (mkd A' v ↔ mkd A v ∨ X v)
theorem MKd_tr {u : Nat} {T : Nat → Rw} {s : Nat} {A B C : gM} {X Y : Nat → Prop} (h1 : MKd u T s A B X) (h2 : MKd u T s B C Y) : MKd u T s A C fun v => X v ∨ Y v :=
  ⟨offM_tr h1.1 h2.1, h2.2.1, h2.2.2.1, fun v hv hT => by rw [h2.2.2.2 v hv hT, h1.2.2.2 v hv hT]; exact or_assoc⟩
section MA
variable {u : Nat} {T : Nat → Rw} {ch : Nat → Nat} {s ar : Nat} {env : Nat → Rw}
def rowsOK (A : gM) (u ar : Nat) (env : Nat → Rw) : Prop := A 138 3 = nI ar ∧ ar ≤ 40 ∧ ∀ k, k < ar → A 181 k = nI (env k).length ∧ (env k).length ≤ 60 ∧ rowIn A (141 + k) (env k) ∧ codesB u (env k)
theorem rowsOK_off {A A' : gM} (o : offM A A') (h : rowsOK A u ar env) : rowsOK A' u ar env :=
  ⟨by rw [o _ _ (by omega) (by omega)]; exact h.1, h.2.1, fun k hk => ⟨by rw [o _ _ (by omega) (by omega)]; exact (h.2.2 k hk).1, (h.2.2 k hk).2.1, fun i c q => by rw [o _ _ (by omega) (by omega)]; exact (h.2.2 k hk).2.2.1 i c q, (h.2.2 k hk).2.2.2⟩⟩
theorem ma_row {K6 : gM → Int32 → Option gM} {k : Nat} (hk : k < ar) : ∀ (f i : Nat) (A : gM), sT A u T ch → stI A s → mkC A u T → rowsOK A u ar env → i ≤ (env k).length → (env k).length - i < f →
    ∃ A', mX1_markAll_L30 K6 f A (nI k) (141 + k) (nI i) = K6 A' (nI (k + 1)) ∧ MKd u T s A A' fun v => ∃ c ∈ (env k).drop i, 100 ≤ c ∧ 100 + v ∈ T (c - 100)
  | 0, i, A, _, _, _, _, _, hf => by omega
  | f + 1, i, A, h, hs, hc, hr, hi, hf => by
    have hu := h.2.2.1
    obtain ⟨r1, r2, r3, r4⟩ := hr.2.2 k hk
    have hk40 : k < 40 := by have := hr.2.1; omega
    show ∃ A', mX1_markAll_b30 K6 (mX1_markAll_L30 K6 f) A (nI k) (141 + k) (nI i) = _ ∧ _
    by_cases e : i = (env k).length
    · refine ⟨A, ma_end hk40 r1 (by omega) (by omega), fun _ _ _ _ => rfl, hs, hc, fun v hv hT => ⟨Or.inl, fun q => q.elim id fun ⟨c, hc, _⟩ => ?_⟩⟩
      rw [e, List.drop_length] at hc; cases hc
    · obtain ⟨c, hg, hd, hcR⟩ := drop_at (R := env k) (k := i) (by omega)
      have hA := r3 i c hg
      have hcb := r4 c hcR
      by_cases c1 : c < 100
      · rw [ma_low hk40 r1 (by omega) r2 hA c1]
        obtain ⟨A', e1, m1⟩ := ma_row hk f (i + 1) A h hs hc hr (by omega) (by omega)
        refine ⟨A', e1, m1.1, m1.2.1, m1.2.2.1, fun v hv hT => ?_⟩
        rw [m1.2.2.2 v hv hT, hd]
        refine or_congr Iff.rfl ⟨fun ⟨d, z1, z2⟩ => ⟨d, List.mem_cons_of_mem _ z1, z2⟩, fun ⟨d, z1, z2, z3⟩ => ?_⟩
        rcases List.mem_cons.mp z1 with rfl | z1
        · omega
        · exact ⟨d, z1, z2, z3⟩
      · obtain ⟨A1, e0, g1, g2, g3, g4⟩ := markWithin_ok h hs (n := c - 100) (by omega) hc
        rw [ma_node hk40 r1 (by omega) r2 hA (by omega) (by omega) e0]
        obtain ⟨A', e1, m1⟩ := ma_row hk f (i + 1) A1 (sT_same (offM_S g1) h) g2 g3 (rowsOK_off g1 hr) (by omega) (by omega)
        refine ⟨A', e1, offM_tr g1 m1.1, m1.2.1, m1.2.2.1, fun v hv hT => ?_⟩
        rw [m1.2.2.2 v hv hT, g4 v hv hT, or_assoc, hd]
        refine or_congr Iff.rfl ⟨fun z => ?_, fun ⟨d, z1, z2, z3⟩ => ?_⟩
        · rcases z with z | ⟨d, z1, z2⟩
          · exact ⟨c, List.mem_cons_self, by omega, z⟩
          · exact ⟨d, List.mem_cons_of_mem _ z1, z2⟩
        · rcases List.mem_cons.mp z1 with rfl | z1
          · exact Or.inl z3
          · exact Or.inr ⟨d, z1, z2, z3⟩
theorem ma_L : ∀ (f k : Nat) (A : gM), sT A u T ch → stI A s → mkC A u T → rowsOK A u ar env → k ≤ ar → ar - k < f →
    ∃ A', mX1_markAll_L6 f A (nI k) = some A' ∧ MKd u T s A A' fun v => ∃ j, k ≤ j ∧ j < ar ∧ ∃ c ∈ env j, 100 ≤ c ∧ 100 + v ∈ T (c - 100)
  | 0, k, A, _, _, _, _, _, hf => by omega
  | f + 1, k, A, h, hs, hc, hr, hk, hf => by
    show ∃ A', mX1_markAll_b6 (mX1_markAll_L6 f) A (nI k) = some A' ∧ _
    by_cases e : k = ar
    · subst e
      exact ⟨A, ma_stop hr.1 hr.2.1, fun _ _ _ _ => rfl, hs, hc, fun v hv hT => ⟨Or.inl, fun q => q.elim id fun ⟨j, z1, z2, _⟩ => by omega⟩⟩
    · rw [ma_out hr.1 (by omega) hr.2.1]
      obtain ⟨A1, e1, m1⟩ := ma_row (K6 := mX1_markAll_L6 f) (k := k) (by omega) gF 0 A h hs hc hr (by omega) (by have := (hr.2.2 k (by omega)).2.1; unfold gF; omega)
      obtain ⟨A2, e2, m2⟩ := ma_L f (k + 1) A1 (sT_same (offM_S m1.1) h) m1.2.1 m1.2.2.1 (rowsOK_off m1.1 hr) (by omega) (by omega)
      refine ⟨A2, by rw [e1, e2], offM_tr m1.1 m2.1, m2.2.1, m2.2.2.1, fun v hv hT => ?_⟩
      rw [m2.2.2.2 v hv hT, m1.2.2.2 v hv hT, or_assoc, List.drop_zero]
      refine or_congr Iff.rfl ⟨fun z => ?_, fun ⟨j, z1, z2, z3⟩ => ?_⟩
      · rcases z with z | ⟨j, z1, z2⟩
        · exact ⟨k, Nat.le_refl _, by omega, z⟩
        · exact ⟨j, by omega, z2⟩
      · by_cases e3 : j = k
        · subst e3; exact Or.inl z3
        · exact Or.inr ⟨j, by omega, z2, z3⟩
theorem markAll_ok {A : gM} (h : sT A u T ch) (hs : stI A s) (hsb : s < 2000000000) (hr : rowsOK A u ar env) :
    ∃ A', mX1_markAll A = some A' ∧ stI A' (s + 1) ∧ (∀ a b, a ≠ 133 → a ≠ 134 → ¬ (a = 129 ∧ b = 10) → A' a b = A a b) ∧ ∀ v, v < u → T v = [100 + v] → (mkd A' v ↔ ∃ j, j < ar ∧ ∃ c ∈ env j, 100 ≤ c ∧ 100 + v ∈ T (c - 100)) := by
  have hu := h.2.2.1
  obtain ⟨A1, e1, st1, nm1, fr1⟩ := forget_ok hs hsb
  have s1 : sameS A A1 := ⟨fr1 _ _ (by omega), funext fun b => fr1 _ b (by omega), funext fun b => fr1 _ b (by omega), funext fun b => fr1 _ b (by omega)⟩
  have hr1 : rowsOK A1 u ar env := ⟨by rw [fr1 _ _ (by omega)]; exact hr.1, hr.2.1, fun k hk => ⟨by rw [fr1 _ _ (by omega)]; exact (hr.2.2 k hk).1, (hr.2.2 k hk).2.1, fun i c q => by rw [fr1 _ _ (by omega)]; exact (hr.2.2 k hk).2.2.1 i c q, (hr.2.2 k hk).2.2.2⟩⟩
  obtain ⟨A2, e2, m2⟩ := ma_L gF 0 A1 (sT_same s1 h) st1 (fun m hm q => absurd q (nm1 m (by omega))) hr1 (by omega) (by have := hr.2.1; unfold gF; omega)
  refine ⟨A2, ?_, m2.2.1, fun a b q1 q2 q3 => by rw [m2.1 a b q1 q2, fr1 a b q3], fun v hv hT => ?_⟩
  · unfold mX1_markAll mX1_markAll_b0
    rw [bnd e1, show (0 : Int32) = nI 0 from nI0.symm]; exact e2
  · rw [m2.2.2.2 v hv hT]
    exact ⟨fun q => q.elim (fun q => absurd q (nm1 v (by omega))) fun ⟨j, _, z⟩ => ⟨j, z⟩, fun ⟨j, z⟩ => Or.inr ⟨j, by omega, z⟩⟩
end MA
