/-! MATCHING TWO TYPES: the steps -/
theorem item_neg {a : Nat} (ha : a ≤ 2000000) : (0 ≤ (-1 : Int32) - nI a) = False := by
  refine eq_false fun q => ?_
  have e1 : (-1 : Int32).toInt = -1 := by decide
  have e2 : (0 : Int32).toInt = 0 := by decide
  rw [Int32.le_iff_toInt_le, Int32.toInt_sub, nI_toInt (by omega), e1, e2] at q
  unfold Int.bmod at q
  dsimp only at q
  split at q <;> omega
theorem item_back (x : Int32) : (-1 : Int32) - ((-1) - x) = x := by
  rw [Int32.sub_eq_add_neg, Int32.sub_eq_add_neg, Int32.neg_add, Int32.neg_neg, Int32.sub_eq_add_neg, Int32.neg_neg, ← Int32.add_assoc, show (-1 : Int32) + 1 = 0 by decide, Int32.zero_add]
def ppA (A : gM) (t : Nat) (v w : Int32) : gM := g_up (g_up A 135 t v) 136 t w
theorem putPair_k {A : gM} {t : Nat} {v w : Int32} (ht : t < 5208) : mX4_putPair A (nI t) v w = some (ppA A t v w, nI (t + 1)) := by
  unfold mX4_putPair mX4_putPair_b0
  simp (disch := omega) only [lq2, lq3, lq4, lq5, lq6, lq7, lq8, lq9, lq10, lq11, lq40, lq59, lq60, lq61, lq100, lq500, lq2600, lq5208, lq1000000, ltT, ltF, leT, leF, eqT, eqF, lt0F, le0F, le0T, ge0T, eq0T, eq0F, eqm1F, ten0, m1lt0, eq_self, nI_add, nI_1, sub1, addm1, addm2, subn, cl0, cl1, ncl, ginT, gin0, gin1, ↓reduceIte, if_true, if_false, Nat.add_sub_cancel, obe, ↓gle, true_or, or_true]
  rfl
theorem ppA_135 {A : gM} {t j : Nat} {v w : Int32} : ppA A t v w 135 j = if j = t then v else A 135 j := by
  unfold ppA
  rw [up_c (by omega), up_get]
  by_cases e : j = t
  · rw [if_pos ⟨rfl, e⟩, if_pos e]
  · rw [if_neg (fun q => e q.2), if_neg e]
theorem ppA_136 {A : gM} {t j : Nat} {v w : Int32} : ppA A t v w 136 j = if j = t then w else A 136 j := by
  unfold ppA
  rw [up_get]
  by_cases e : j = t
  · rw [if_pos ⟨rfl, e⟩, if_pos e]
  · rw [if_neg (fun q => e q.2), if_neg e, up_c (by omega)]
theorem ppA_else {A : gM} {t a b : Nat} {v w : Int32} (h1 : a ≠ 135) (h2 : a ≠ 136) : ppA A t v w a b = A a b := by
  unfold ppA; rw [up_c h2, up_c h1]
theorem ppA_cell {A : gM} {t a : Nat} {v w : Int32} (h1 : a ≠ 135) (h2 : a ≠ 136) : ppA A t v w a = A a := funext fun _ => ppA_else h1 h2
theorem sameS_pp {A : gM} {t : Nat} {v w : Int32} : sameS A (ppA A t v w) := ⟨ppA_else (by omega) (by omega), ppA_cell (by omega) (by omega), ppA_cell (by omega) (by omega), ppA_cell (by omega) (by omega)⟩
theorem bnd {α β : Type} {o : Option α} {v : α} {f : α → Option β} (h : o = some v) : o.bind f = f v := by rw [h]; exact obe
theorem ppb1 {β : Type} {A : gM} {t : Nat} {v w : Int32} {f : gM × Int32 → Option β} (h : 1 ≤ t) (ht : t < 5208) : (mX4_putPair A (nI t + (-1)) v w).bind f = f (ppA A (t - 1) v w, nI t) := by
  rw [addm1 h, putPair_k (by omega), show t - 1 + 1 = t by omega]; exact obe
theorem ppb2 {β : Type} {A : gM} {t : Nat} {v w : Int32} {f : gM × Int32 → Option β} (ht : t < 5208) : (mX4_putPair A (nI t) v w).bind f = f (ppA A t v w, nI (t + 1)) := by
  rw [putPair_k ht]; exact obe
theorem popN {t : Nat} (ht : t ≤ 2000000) : (nI (t + 1) + (-1)).toNatClampNeg = t := by rw [addm1 (by omega), ncl (by omega), Nat.add_sub_cancel]
section MH
variable {K : gM → Int32 → Int32 → Option (gM × Int32)} {A : gM} {x t a b m n : Nat}
theorem match_eq (hx : x < 1000000) (ht : t < 5208) (ha : A 135 t = nI a) (hb : A 136 t = nI b) (hab : a ≤ 2600) (ra : mX4_resolve A (nI a) = some (A, nI m)) (rb : mX4_resolve A (nI b) = some (A, nI m)) :
    mX4_match_b11 K A (nI (t + 1)) (nI x) = K A (nI t) (nI (x + 1)) := by
  have ra1 : mX4_resolve A (A 135 (nI (t + 1) + (-1)).toNatClampNeg) = some (A, nI m) := by rw [popN (by omega), ha]; exact ra
  have rb1 : mX4_resolve A (A 136 (nI (t + 1) + (-1)).toNatClampNeg) = some (A, nI m) := by rw [popN (by omega), hb]; exact rb
  unfold mX4_match_b11 mX4_match_b255
  simp (disch := omega) only [lq2, lq3, lq4, lq5, lq6, lq7, lq8, lq9, lq10, lq11, lq40, lq59, lq60, lq61, lq100, lq500, lq2600, lq5208, lq1000000, ltT, ltF, leT, leF, eqT, eqF, lt0F, le0F, le0T, ge0T, eq0T, eq0F, eqm1F, ten0, m1lt0, eq_self, nI_add, nI_1, sub1, addm1, addm2, subn, cl0, cl1, ncl, ginT, gin0, gin1, ↓reduceIte, if_true, if_false, Nat.add_sub_cancel, obe, ↓gle, true_or, or_true, ha, hb, ↓(bnd ra1), ↓(bnd rb1)]
theorem match_kind (hx : x < 1000000) (ht : t < 5208) (ha : A 135 t = nI a) (hb : A 136 t = nI b) (hab : a ≤ 2600) (ra : mX4_resolve A (nI a) = some (A, nI m)) (rb : mX4_resolve A (nI b) = some (A, nI n)) (hm : m < 2600) (hn : n < 2600) (hne : m ≠ n) {d e : Nat} (hd : A 130 m = nI d) (he : A 130 n = nI e) (d4 : d ≠ 4) (e4 : e ≠ 4) (hde : d ≠ e) (db : d ≤ 3000) (eb : e ≤ 3000) :
    mX4_match_b11 K A (nI (t + 1)) (nI x) = some (A, nI 2) := by
  have ra1 : mX4_resolve A (A 135 (nI (t + 1) + (-1)).toNatClampNeg) = some (A, nI m) := by rw [popN (by omega), ha]; exact ra
  have rb1 : mX4_resolve A (A 136 (nI (t + 1) + (-1)).toNatClampNeg) = some (A, nI n) := by rw [popN (by omega), hb]; exact rb
  unfold mX4_match_b11
  simp (disch := omega) only [lq2, lq3, lq4, lq5, lq6, lq7, lq8, lq9, lq10, lq11, lq40, lq59, lq60, lq61, lq100, lq500, lq2600, lq5208, lq1000000, ltT, ltF, leT, leF, eqT, eqF, lt0F, le0F, le0T, ge0T, eq0T, eq0F, eqm1F, ten0, m1lt0, eq_self, nI_add, nI_1, sub1, addm1, addm2, subn, cl0, cl1, ncl, ginT, gin0, gin1, ↓reduceIte, if_true, if_false, Nat.add_sub_cancel, obe, ↓gle, true_or, or_true, ha, hb, ↓(bnd ra1), ↓(bnd rb1), hd, he]
theorem match_pair (hx : x < 1000000) (ht : t + 2 < 5208) (ha : A 135 t = nI a) (hb : A 136 t = nI b) (hab : a ≤ 2600) (ra : mX4_resolve A (nI a) = some (A, nI m)) (rb : mX4_resolve A (nI b) = some (A, nI n)) (hm : m < 2600) (hn : n < 2600) (hne : m ≠ n) {d i j k l : Nat} (hd : A 130 m = nI d) (he : A 130 n = nI d) (d4 : d ≠ 4) (db : d ≤ 3000)
    (hi : A 131 m = nI i) (hj : A 132 m = nI j) (hk : A 131 n = nI k) (hl : A 132 n = nI l) :
    mX4_match_b11 K A (nI (t + 1)) (nI x) = K (ppA (ppA (ppA A t ((-1) - nI m) (nI n)) (t + 1) (nI j) (nI l)) (t + 2) (nI i) (nI k)) (nI (t + 3)) (nI (x + 1)) := by
  have ra1 : mX4_resolve A (A 135 (nI (t + 1) + (-1)).toNatClampNeg) = some (A, nI m) := by rw [popN (by omega), ha]; exact ra
  have rb1 : mX4_resolve A (A 136 (nI (t + 1) + (-1)).toNatClampNeg) = some (A, nI n) := by rw [popN (by omega), hb]; exact rb
  unfold mX4_match_b11 mX4_match_b255
  simp (disch := omega) only [lq2, lq3, lq4, lq5, lq6, lq7, lq8, lq9, lq10, lq11, lq40, lq59, lq60, lq61, lq100, lq500, lq2600, lq5208, lq1000000, ltT, ltF, leT, leF, eqT, eqF, lt0F, le0F, le0T, ge0T, eq0T, eq0F, eqm1F, ten0, m1lt0, eq_self, nI_add, nI_1, sub1, addm1, addm2, subn, cl0, cl1, ncl, ginT, gin0, gin1, ↓reduceIte, if_true, if_false, Nat.add_sub_cancel, obe, ↓gle, true_or, or_true, ha, hb, ↓(bnd ra1), ↓(bnd rb1), hd, he, ↓ppb1, ↓ppb2, ppA_else, hi, hj, hk, hl]
theorem match_give (hx : x < 1000000) (ht : t < 5208) (ha : A 135 t = (-1) - nI m) (hb : A 136 t = nI n) (hm : m < 2600) (hn : n < 2600) (hne : m ≠ n) (h5 : A 130 n ≠ nI 5) :
    mX4_match_b11 K A (nI (t + 1)) (nI x) = K (gvA A m n) (nI t) (nI (x + 1)) := by
  have hg : mX4_give A (nI m) (nI n) = some (gvA A m n) := give_k hm hn (resolve_self hn h5) hne
  unfold mX4_match_b11 mX4_match_b255
  simp (disch := omega) only [lq2, lq3, lq4, lq5, lq6, lq7, lq8, lq9, lq10, lq11, lq40, lq59, lq60, lq61, lq100, lq500, lq2600, lq5208, lq1000000, ltT, ltF, leT, leF, eqT, eqF, lt0F, le0F, le0T, ge0T, eq0T, eq0F, eqm1F, ten0, m1lt0, eq_self, nI_add, nI_1, sub1, addm1, addm2, subn, cl0, cl1, ncl, ginT, gin0, gin1, ↓reduceIte, if_true, if_false, Nat.add_sub_cancel, obe, ↓gle, true_or, or_true, ha, hb, item_neg, item_back, hg]
theorem match_145 {v o : Nat} {A1 A2 : gM} (hf : mX4_forgetMarks A = some A1) (hm : mX4_markWithin A1 (nI o) = some A2) (hv : v < 2600) (ho : o < 2600) (hvo : v ≠ o) (h5 : A2 130 o ≠ nI 5) (hx : x < 1000000) :
    (mkd A2 v → mX4_match_b145 K A (nI t) (nI x) (nI v) (nI o) = some (A2, nI 3)) ∧ (¬ mkd A2 v → mX4_match_b145 K A (nI t) (nI x) (nI v) (nI o) = K (gvA A2 v o) (nI t) (nI (x + 1))) := by
  have hg : mX4_give A2 (nI v) (nI o) = some (gvA A2 v o) := give_k hv ho (resolve_self ho h5) hvo
  unfold mkd
  refine ⟨fun q => ?_, fun q => ?_⟩
  · unfold mX4_match_b145
    simp (disch := omega) only [lq2, lq3, lq4, lq5, lq6, lq7, lq8, lq9, lq10, lq11, lq40, lq59, lq60, lq61, lq100, lq500, lq2600, lq5208, lq1000000, ltT, ltF, leT, leF, eqT, eqF, lt0F, le0F, le0T, ge0T, eq0T, eq0F, eqm1F, ten0, m1lt0, eq_self, nI_add, nI_1, sub1, addm1, addm2, subn, cl0, cl1, ncl, ginT, gin0, gin1, ↓reduceIte, if_true, if_false, Nat.add_sub_cancel, obe, ↓gle, true_or, or_true, hf, hm, q]
  · unfold mX4_match_b145 mX4_match_b255
    simp (disch := omega) only [lq2, lq3, lq4, lq5, lq6, lq7, lq8, lq9, lq10, lq11, lq40, lq59, lq60, lq61, lq100, lq500, lq2600, lq5208, lq1000000, ltT, ltF, leT, leF, eqT, eqF, lt0F, le0F, le0T, ge0T, eq0T, eq0F, eqm1F, ten0, m1lt0, eq_self, nI_add, nI_1, sub1, addm1, addm2, subn, cl0, cl1, ncl, ginT, gin0, gin1, ↓reduceIte, if_true, if_false, Nat.add_sub_cancel, obe, ↓gle, true_or, or_true, hf, hm, q, hg]
theorem match_varl (hx : x < 1000000) (ht : t < 5208) (ha : A 135 t = nI a) (hb : A 136 t = nI b) (hab : a ≤ 2600) (ra : mX4_resolve A (nI a) = some (A, nI m)) (rb : mX4_resolve A (nI b) = some (A, nI n)) (hm : m < 2600) (hn : n < 2600) (hne : m ≠ n) (hd : A 130 m = nI 4) :
    mX4_match_b11 K A (nI (t + 1)) (nI x) = mX4_match_b145 K A (nI t) (nI x) (nI m) (nI n) := by
  have ra1 : mX4_resolve A (A 135 (nI (t + 1) + (-1)).toNatClampNeg) = some (A, nI m) := by rw [popN (by omega), ha]; exact ra
  have rb1 : mX4_resolve A (A 136 (nI (t + 1) + (-1)).toNatClampNeg) = some (A, nI n) := by rw [popN (by omega), hb]; exact rb
  unfold mX4_match_b11 mX4_match_b111 mX4_match_b129
  simp (disch := omega) only [lq2, lq3, lq4, lq5, lq6, lq7, lq8, lq9, lq10, lq11, lq40, lq59, lq60, lq61, lq100, lq500, lq2600, lq5208, lq1000000, ltT, ltF, leT, leF, eqT, eqF, lt0F, le0F, le0T, ge0T, eq0T, eq0F, eqm1F, ten0, m1lt0, eq_self, nI_add, nI_1, sub1, addm1, addm2, subn, cl0, cl1, ncl, ginT, gin0, gin1, ↓reduceIte, if_true, if_false, Nat.add_sub_cancel, obe, ↓gle, true_or, or_true, ha, hb, ↓(bnd ra1), ↓(bnd rb1), hd]
theorem match_varr (hx : x < 1000000) (ht : t < 5208) (ha : A 135 t = nI a) (hb : A 136 t = nI b) (hab : a ≤ 2600) (ra : mX4_resolve A (nI a) = some (A, nI m)) (rb : mX4_resolve A (nI b) = some (A, nI n)) (hm : m < 2600) (hn : n < 2600) (hne : m ≠ n) {d : Nat} (hd : A 130 m = nI d) (d4 : d ≠ 4) (db : d ≤ 3000) (he : A 130 n = nI 4) :
    mX4_match_b11 K A (nI (t + 1)) (nI x) = mX4_match_b145 K A (nI t) (nI x) (nI n) (nI m) := by
  have ra1 : mX4_resolve A (A 135 (nI (t + 1) + (-1)).toNatClampNeg) = some (A, nI m) := by rw [popN (by omega), ha]; exact ra
  have rb1 : mX4_resolve A (A 136 (nI (t + 1) + (-1)).toNatClampNeg) = some (A, nI n) := by rw [popN (by omega), hb]; exact rb
  unfold mX4_match_b11 mX4_match_b111 mX4_match_b129
  simp (disch := omega) only [lq2, lq3, lq4, lq5, lq6, lq7, lq8, lq9, lq10, lq11, lq40, lq59, lq60, lq61, lq100, lq500, lq2600, lq5208, lq1000000, ltT, ltF, leT, leF, eqT, eqF, lt0F, le0F, le0T, ge0T, eq0T, eq0F, eqm1F, ten0, m1lt0, eq_self, nI_add, nI_1, sub1, addm1, addm2, subn, cl0, cl1, ncl, ginT, gin0, gin1, ↓reduceIte, if_true, if_false, Nat.add_sub_cancel, obe, ↓gle, true_or, or_true, ha, hb, ↓(bnd ra1), ↓(bnd rb1), hd, he]
end MH
