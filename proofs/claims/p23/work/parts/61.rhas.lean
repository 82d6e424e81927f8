/-! THE REFERENCE'S has, codes AND hasOwn -/
/-- the kinds of what a node is by now -/
theorem now_kind {A : gM} {cp u : Nat} {T : Nat → Rw} {ch : Nat → Nat} {P : Nat → Prop} {S : List Nat} (h : rS A cp u T ch) (hr : reg A P S) (hP : ∀ n, P n → n < u) {n : Nat} (hn : P n) :
    ∃ m d, m < u ∧ P m ∧ d ≤ 3000 ∧ A 185 m = nI d ∧ mX6_now cp A (nI n) = some (A, nI m) ∧ T m = T n ∧ rfr A m ∧
      ((d < 2 ∧ T m = [d]) ∨ (d = 4 ∧ A 186 m = -1 ∧ T m = [10 + m]) ∨ ((d = 2 ∨ d = 3) ∧ ∃ i j, P i ∧ P j ∧ i < u ∧ j < u ∧ m ∈ S ∧ A 186 m = nI i ∧ A 187 m = nI j ∧ T m = d :: (T i ++ T j))) := by
  have hu := h.2.2.1
  have hcp := okc_le h.2.1
  obtain ⟨m, hm, e, ht, hf, hPm⟩ := now_ok h (hP n hn)
  have hm2 := hPm P S hr hn
  rcases rN_kind (by omega) (h.2.2.2.1 m hm) hf with ⟨c, hc, hk, hT⟩ | ⟨hk, hl, hT⟩ | ⟨c, i, j, hc, hi, hj, hk, hl, hr2, hT⟩
  · exact ⟨m, c, hm, hm2, by omega, hk, e, ht, hf, Or.inl ⟨hc, hT⟩⟩
  · exact ⟨m, 4, hm, hm2, by omega, hk, e, ht, hf, Or.inr (Or.inl ⟨rfl, hl, hT⟩)⟩
  · have := (hr m hm2).2 c i j hc hk hl hr2 (by omega) (by omega)
    exact ⟨m, c, hm, hm2, by omega, hk, e, ht, hf, Or.inr (Or.inr ⟨hc, i, j, this.2.1, this.2.2, hi, hj, this.1, hl, hr2, hT⟩)⟩
section H6
variable {cp : Nat} {A : gM} {n m v i j d : Nat}
theorem has_eq {rec : gM → Int32 → Int32 → Option (gM × Int32)} (hn : mX6_now cp A (nI n) = some (A, nI v)) : mX6_has_b0 cp rec A (nI n) (nI v) = some (A, 1) := by
  unfold mX6_has_b0 mX6_has_b47 mX6_has_b52
  simp (disch := omega) only [lq2, lq3, lq4, lq5, lq6, lq7, lq8, lq9, lq10, lq11, lq40, lq59, lq60, lq61, lq100, lq500, lq2600, lq5208, lq1000000, ltT, ltF, leT, leF, eqT, eqF, lt0F, le0F, le0T, ge0T, eq0T, eq0F, eqm1F, ten0, m1lt0, eq_self, nI_add, nI_1, sub1, addm1, addm2, subn, cl0, cl1, ncl, ginT, gin0, gin1, ↓reduceIte, if_true, if_false, Nat.add_sub_cancel, obe, ↓gle, true_or, or_true, ↓(bnd hn)]
theorem has_leaf {rec : gM → Int32 → Int32 → Option (gM × Int32)} (hn : mX6_now cp A (nI n) = some (A, nI m)) (hp : mX6_isPair cp A (nI m) = some (A, 0)) (hm : m ≤ 8000) (hv : v ≤ 8000) (hne : m ≠ v) : mX6_has_b0 cp rec A (nI n) (nI v) = some (A, 0) := by
  unfold mX6_has_b0 mX6_has_b51 mX6_has_b52
  simp (disch := omega) only [lq2, lq3, lq4, lq5, lq6, lq7, lq8, lq9, lq10, lq11, lq40, lq59, lq60, lq61, lq100, lq500, lq2600, lq5208, lq1000000, ltT, ltF, leT, leF, eqT, eqF, lt0F, le0F, le0T, ge0T, eq0T, eq0F, eqm1F, ten0, m1lt0, eq_self, nI_add, nI_1, sub1, addm1, addm2, subn, cl0, cl1, ncl, ginT, gin0, gin1, ↓reduceIte, if_true, if_false, Nat.add_sub_cancel, obe, ↓gle, true_or, or_true, ↓(bnd hn), ↓(bnd hp)]
theorem has_pair {rec : gM → Int32 → Int32 → Option (gM × Int32)} (hn : mX6_now cp A (nI n) = some (A, nI m)) (hp : mX6_isPair cp A (nI m) = some (A, 1)) (hm : m < cp) (hcp : cp ≤ 8000) (hv : v ≤ 8000) (hne : m ≠ v) (hi : A 186 m = nI i) (hj : A 187 m = nI j) {p q : Prop} [Decidable p] [Decidable q] (h1 : rec A (nI i) (nI v) = some (A, if p then 1 else 0)) (h2 : rec A (nI j) (nI v) = some (A, if q then 1 else 0)) :
    mX6_has_b0 cp rec A (nI n) (nI v) = some (A, if p ∨ q then 1 else 0) := by
  unfold mX6_has_b0 mX6_has_b51 mX6_has_b47 mX6_has_b52
  by_cases hp1 : p
  · rw [if_pos hp1] at h1
    rw [if_pos (Or.inl hp1)]
    simp (disch := omega) only [lq2, lq3, lq4, lq5, lq6, lq7, lq8, lq9, lq10, lq11, lq40, lq59, lq60, lq61, lq100, lq500, lq2600, lq5208, lq1000000, ltT, ltF, leT, leF, eqT, eqF, lt0F, le0F, le0T, ge0T, eq0T, eq0F, eqm1F, ten0, m1lt0, eq_self, nI_add, nI_1, sub1, addm1, addm2, subn, cl0, cl1, ncl, ginT, gin0, gin1, ↓reduceIte, if_true, if_false, Nat.add_sub_cancel, obe, ↓gle, true_or, or_true, ↓(bnd hn), ↓(bnd hp), hi, h1]
  · rw [if_neg hp1] at h1
    by_cases hq1 : q
    · rw [if_pos hq1] at h2
      rw [if_pos (Or.inr hq1)]
      simp (disch := omega) only [lq2, lq3, lq4, lq5, lq6, lq7, lq8, lq9, lq10, lq11, lq40, lq59, lq60, lq61, lq100, lq500, lq2600, lq5208, lq1000000, ltT, ltF, leT, leF, eqT, eqF, lt0F, le0F, le0T, ge0T, eq0T, eq0F, eqm1F, ten0, m1lt0, eq_self, nI_add, nI_1, sub1, addm1, addm2, subn, cl0, cl1, ncl, ginT, gin0, gin1, ↓reduceIte, if_true, if_false, Nat.add_sub_cancel, obe, ↓gle, true_or, or_true, ↓(bnd hn), ↓(bnd hp), hi, h1, hj, h2]
    · rw [if_neg hq1] at h2
      rw [if_neg (fun z => z.elim hp1 hq1)]
      simp (disch := omega) only [lq2, lq3, lq4, lq5, lq6, lq7, lq8, lq9, lq10, lq11, lq40, lq59, lq60, lq61, lq100, lq500, lq2600, lq5208, lq1000000, ltT, ltF, leT, leF, eqT, eqF, lt0F, le0F, le0T, ge0T, eq0T, eq0F, eqm1F, ten0, m1lt0, eq_self, nI_add, nI_1, sub1, addm1, addm2, subn, cl0, cl1, ncl, ginT, gin0, gin1, ↓reduceIte, if_true, if_false, Nat.add_sub_cancel, obe, ↓gle, true_or, or_true, ↓(bnd hn), ↓(bnd hp), hi, h1, hj, h2]
theorem codes_leaf {rec : gM → Int32 → Option (gM × Int32)} (hn : mX6_now cp A (nI n) = some (A, nI m)) (hp : mX6_isPair cp A (nI m) = some (A, 0)) : mX6_codes_b0 cp rec A (nI n) = some (A, 1) := by
  unfold mX6_codes_b0
  simp (disch := omega) only [lq2, lq3, lq4, lq5, lq6, lq7, lq8, lq9, lq10, lq11, lq40, lq59, lq60, lq61, lq100, lq500, lq2600, lq5208, lq1000000, ltT, ltF, leT, leF, eqT, eqF, lt0F, le0F, le0T, ge0T, eq0T, eq0F, eqm1F, ten0, m1lt0, eq_self, nI_add, nI_1, sub1, addm1, addm2, subn, cl0, cl1, ncl, ginT, gin0, gin1, ↓reduceIte, if_true, if_false, Nat.add_sub_cancel, obe, ↓gle, true_or, or_true, ↓(bnd hn), ↓(bnd hp)]
theorem codes_pair {rec : gM → Int32 → Option (gM × Int32)} (hn : mX6_now cp A (nI n) = some (A, nI m)) (hp : mX6_isPair cp A (nI m) = some (A, 1)) (hm : m < cp) (hcp : cp ≤ 8000) (hi : A 186 m = nI i) (hj : A 187 m = nI j) {x y : Nat} (h1 : rec A (nI i) = some (A, nI (min 61 x))) (h2 : rec A (nI j) = some (A, nI (min 61 y))) :
    mX6_codes_b0 cp rec A (nI n) = some (A, nI (min 61 (1 + (x + y)))) := by
  unfold mX6_codes_b0 mX6_codes_b56
  by_cases e : x ≤ 60
  · have e1 : min 61 x = x := by omega
    rw [e1] at h1
    have e3 : (1 : Int32) + nI x = nI (1 + x) := by rw [one_nI, nI_add]
    by_cases e2 : 1 + x + min 61 y < 61
    · have e4 : min 61 (1 + (x + y)) = 1 + x + min 61 y := by omega
      rw [e4]
      simp (disch := omega) only [lq2, lq3, lq4, lq5, lq6, lq7, lq8, lq9, lq10, lq11, lq40, lq59, lq60, lq61, lq100, lq500, lq2600, lq5208, lq1000000, ltT, ltF, leT, leF, eqT, eqF, lt0F, le0F, le0T, ge0T, eq0T, eq0F, eqm1F, ten0, m1lt0, eq_self, nI_add, nI_1, sub1, addm1, addm2, subn, cl0, cl1, ncl, ginT, gin0, gin1, ↓reduceIte, if_true, if_false, Nat.add_sub_cancel, obe, ↓gle, true_or, or_true, ↓(bnd hn), ↓(bnd hp), hi, h1, hj, h2, e3]
    · have e4 : min 61 (1 + (x + y)) = 61 := by omega
      rw [e4]
      simp (disch := omega) only [lq2, lq3, lq4, lq5, lq6, lq7, lq8, lq9, lq10, lq11, lq40, lq59, lq60, lq61, lq100, lq500, lq2600, lq5208, lq1000000, ltT, ltF, leT, leF, eqT, eqF, lt0F, le0F, le0T, ge0T, eq0T, eq0F, eqm1F, ten0, m1lt0, eq_self, nI_add, nI_1, sub1, addm1, addm2, subn, cl0, cl1, ncl, ginT, gin0, gin1, ↓reduceIte, if_true, if_false, Nat.add_sub_cancel, obe, ↓gle, true_or, or_true, ↓(bnd hn), ↓(bnd hp), hi, h1, hj, h2, e3]
  · have e1 : min 61 x = 61 := by omega
    have e4 : min 61 (1 + (x + y)) = 61 := by omega
    rw [e1] at h1
    rw [e4]
    simp (disch := omega) only [lq2, lq3, lq4, lq5, lq6, lq7, lq8, lq9, lq10, lq11, lq40, lq59, lq60, lq61, lq100, lq500, lq2600, lq5208, lq1000000, ltT, ltF, leT, leF, eqT, eqF, lt0F, le0F, le0T, ge0T, eq0T, eq0F, eqm1F, ten0, m1lt0, eq_self, nI_add, nI_1, sub1, addm1, addm2, subn, cl0, cl1, ncl, ginT, gin0, gin1, ↓reduceIte, if_true, if_false, Nat.add_sub_cancel, obe, ↓gle, true_or, or_true, ↓(bnd hn), ↓(bnd hp), hi, h1]
theorem hasOwn_low {rec : gM → Int32 → Option (gM × Int32)} (hn : mX6_now cp A (nI n) = some (A, nI m)) (hp : mX6_isPair cp A (nI m) = some (A, 0)) (hm : m < cp) (hcp : cp ≤ 8000) (hd : A 185 m = nI d) (h4 : d ≠ 4) (db : d ≤ 3000) : mX6_hasOwn_b0 cp rec A (nI n) = some (A, 0) := by
  unfold mX6_hasOwn_b0 mX6_hasOwn_b71 mX6_hasOwn_b72
  simp (disch := omega) only [lq2, lq3, lq4, lq5, lq6, lq7, lq8, lq9, lq10, lq11, lq40, lq59, lq60, lq61, lq100, lq500, lq2600, lq5208, lq1000000, ltT, ltF, leT, leF, eqT, eqF, lt0F, le0F, le0T, ge0T, eq0T, eq0F, eqm1F, ten0, m1lt0, eq_self, nI_add, nI_1, sub1, addm1, addm2, subn, cl0, cl1, ncl, ginT, gin0, gin1, ↓reduceIte, if_true, if_false, Nat.add_sub_cancel, obe, ↓gle, true_or, or_true, ↓(bnd hn), ↓(bnd hp), hd]
theorem hasOwn_var {rec : gM → Int32 → Option (gM × Int32)} (hn : mX6_now cp A (nI n) = some (A, nI m)) (hp : mX6_isPair cp A (nI m) = some (A, 0)) (hm : m < cp) (hcp : cp ≤ 8000) (hd : A 185 m = nI 4) : mX6_hasOwn_b0 cp rec A (nI n) = some (A, if A 188 m = 0 then 0 else 1) := by
  unfold mX6_hasOwn_b0 mX6_hasOwn_b71 mX6_hasOwn_b72
  by_cases e : A 188 m = 0
  · simp (disch := omega) only [lq2, lq3, lq4, lq5, lq6, lq7, lq8, lq9, lq10, lq11, lq40, lq59, lq60, lq61, lq100, lq500, lq2600, lq5208, lq1000000, ltT, ltF, leT, leF, eqT, eqF, lt0F, le0F, le0T, ge0T, eq0T, eq0F, eqm1F, ten0, m1lt0, eq_self, nI_add, nI_1, sub1, addm1, addm2, subn, cl0, cl1, ncl, ginT, gin0, gin1, ↓reduceIte, if_true, if_false, Nat.add_sub_cancel, obe, ↓gle, true_or, or_true, ↓(bnd hn), ↓(bnd hp), hd, e]
  · simp (disch := omega) only [lq2, lq3, lq4, lq5, lq6, lq7, lq8, lq9, lq10, lq11, lq40, lq59, lq60, lq61, lq100, lq500, lq2600, lq5208, lq1000000, ltT, ltF, leT, leF, eqT, eqF, lt0F, le0F, le0T, ge0T, eq0T, eq0F, eqm1F, ten0, m1lt0, eq_self, nI_add, nI_1, sub1, addm1, addm2, subn, cl0, cl1, ncl, ginT, gin0, gin1, ↓reduceIte, if_true, if_false, Nat.add_sub_cancel, obe, ↓gle, true_or, or_true, ↓(bnd hn), ↓(bnd hp), hd, e]
theorem hasOwn_pair {rec : gM → Int32 → Option (gM × Int32)} (hn : mX6_now cp A (nI n) = some (A, nI m)) (hp : mX6_isPair cp A (nI m) = some (A, 1)) (hm : m < cp) (hcp : cp ≤ 8000) (hi : A 186 m = nI i) (hj : A 187 m = nI j) {p q : Prop} [Decidable p] [Decidable q] (h1 : rec A (nI i) = some (A, if p then 1 else 0)) (h2 : rec A (nI j) = some (A, if q then 1 else 0)) :
    mX6_hasOwn_b0 cp rec A (nI n) = some (A, if p ∨ q then 1 else 0) := by
  unfold mX6_hasOwn_b0 mX6_hasOwn_b40 mX6_hasOwn_b72
  by_cases hp1 : p
  · rw [if_pos hp1] at h1
    rw [if_pos (Or.inl hp1)]
    simp (disch := omega) only [lq2, lq3, lq4, lq5, lq6, lq7, lq8, lq9, lq10, lq11, lq40, lq59, lq60, lq61, lq100, lq500, lq2600, lq5208, lq1000000, ltT, ltF, leT, leF, eqT, eqF, lt0F, le0F, le0T, ge0T, eq0T, eq0F, eqm1F, ten0, m1lt0, eq_self, nI_add, nI_1, sub1, addm1, addm2, subn, cl0, cl1, ncl, ginT, gin0, gin1, ↓reduceIte, if_true, if_false, Nat.add_sub_cancel, obe, ↓gle, true_or, or_true, ↓(bnd hn), ↓(bnd hp), hi, h1]
  · rw [if_neg hp1] at h1
    by_cases hq1 : q
    · rw [if_pos hq1] at h2
      rw [if_pos (Or.inr hq1)]
      simp (disch := omega) only [lq2, lq3, lq4, lq5, lq6, lq7, lq8, lq9, lq10, lq11, lq40, lq59, lq60, lq61, lq100, lq500, lq2600, lq5208, lq1000000, ltT, ltF, leT, leF, eqT, eqF, lt0F, le0F, le0T, ge0T, eq0T, eq0F, eqm1F, ten0, m1lt0, eq_self, nI_add, nI_1, sub1, addm1, addm2, subn, cl0, cl1, ncl, ginT, gin0, gin1, ↓reduceIte, if_true, if_false, Nat.add_sub_cancel, obe, ↓gle, true_or, or_true, ↓(bnd hn), ↓(bnd hp), hi, h1, hj, h2]
    · rw [if_neg hq1] at h2
      rw [if_neg (fun z => z.elim hp1 hq1)]
      simp (disch := omega) only [lq2, lq3, lq4, lq5, lq6, lq7, lq8, lq9, lq10, lq11, lq40, lq59, lq60, lq61, lq100, lq500, lq2600, lq5208, lq1000000, ltT, ltF, leT, leF, eqT, eqF, lt0F, le0F, le0T, ge0T, eq0T, eq0F, eqm1F, ten0, m1lt0, eq_self, nI_add, nI_1, sub1, addm1, addm2, subn, cl0, cl1, ncl, ginT, gin0, gin1, ↓reduceIte, if_true, if_false, Nat.add_sub_cancel, obe, ↓gle, true_or, or_true, ↓(bnd hn), ↓(bnd hp), hi, h1, hj, h2]
end H6
section R6
variable {A : gM} {cp u : Nat} {T : Nat → Rw} {ch : Nat → Nat} {P : Nat → Prop} {S : List Nat}
theorem has_ok (h : rS A cp u T ch) (hr : reg A P S) (hP : ∀ n, P n → n < u) {v : Nat} (hv : v < u) (hTv : T v = [10 + v]) (hfv : rfr A v) : ∀ (f n d : Nat), P n → abv T (fun k => k ∈ S) n d → S.length < f + d → mX6_has cp f A (nI n) (nI v) = some (A, if 10 + v ∈ T n then 1 else 0)
  | 0, n, d, _, ha, hf => by have := abv_le ha S fun k hk => hk; omega
  | f + 1, n, d, hn, ha, hf => by
    have hu := h.2.2.1
    have hcp := okc_le h.2.1
    obtain ⟨m, e, hm, hPm, eb, hk, hnow, hT, -, hcase⟩ := now_kind h hr hP hn
    show mX6_has_b0 cp (mX6_has cp f) A (nI n) (nI v) = _
    rw [← hT]
    rcases hcase with ⟨h2, hTm⟩ | ⟨rfl, hl, hTm⟩ | ⟨h2, i, j, hPi, hPj, hi, hj, hmS, hl, hr2, hTm⟩
    · have hne : m ≠ v := fun q => by subst q; rw [hTv] at hTm; have := (List.cons.inj hTm).1; omega
      rw [has_leaf hnow (isPair6F (by omega) (by omega) hk (by omega) (by omega) (by omega)) (by omega) (by omega) hne, hTm, if_neg (fun q => by rw [List.mem_singleton] at q; omega)]
    · by_cases e : m = v
      · subst e
        rw [has_eq hnow, hTm, if_pos (List.mem_singleton.mpr rfl)]
      · rw [has_leaf hnow (isPair6F (by omega) (by omega) hk (by omega) (by omega) (by omega)) (by omega) (by omega) e, hTm, if_neg (fun q => by rw [List.mem_singleton] at q; omega)]
    · have hne : m ≠ v := fun q => by subst q; rw [hTv] at hTm; have := (List.cons.inj hTm).1; omega
      rw [has_pair hnow (isPair6T (by omega) (by omega) hk h2) (by omega) (by omega) (by omega) hne hl hr2 (has_ok h hr hP hv hTv hfv f i (d + 1) hPi (abv_down (x := [e]) ha hmS hT.symm (by simp) (by rw [hTm]; rfl)) (by omega)) (has_ok h hr hP hv hTv hfv f j (d + 1) hPj (abv_down (x := e :: T i) (y := []) ha hmS hT.symm (by simp) (by rw [hTm]; simp)) (by omega))]
      have : (10 + v ∈ T i ∨ 10 + v ∈ T j) ↔ 10 + v ∈ T m := by
        rw [hTm, List.mem_cons, List.mem_append]
        exact ⟨Or.inr, fun q => q.elim (fun q => by omega) id⟩
      by_cases z : 10 + v ∈ T m
      · rw [if_pos z, if_pos (this.mpr z)]
      · rw [if_neg z, if_neg (fun y => z (this.mp y))]
theorem codes_ok (h : rS A cp u T ch) (hr : reg A P S) (hP : ∀ n, P n → n < u) : ∀ (f n d : Nat), P n → abv T (fun k => k ∈ S) n d → S.length < f + d → mX6_codes cp f A (nI n) = some (A, nI (min 61 (T n).length))
  | 0, n, d, _, ha, hf => by have := abv_le ha S fun k hk => hk; omega
  | f + 1, n, d, hn, ha, hf => by
    have hu := h.2.2.1
    have hcp := okc_le h.2.1
    obtain ⟨m, e, hm, hPm, eb, hk, hnow, hT, -, hcase⟩ := now_kind h hr hP hn
    show mX6_codes_b0 cp (mX6_codes cp f) A (nI n) = _
    rw [← hT]
    rcases hcase with ⟨h2, hTm⟩ | ⟨rfl, hl, hTm⟩ | ⟨h2, i, j, hPi, hPj, hi, hj, hmS, hl, hr2, hTm⟩
    · rw [codes_leaf hnow (isPair6F (by omega) (by omega) hk (by omega) (by omega) (by omega)), hTm]; rfl
    · rw [codes_leaf hnow (isPair6F (by omega) (by omega) hk (by omega) (by omega) (by omega)), hTm]; rfl
    · rw [codes_pair hnow (isPair6T (by omega) (by omega) hk h2) (by omega) (by omega) hl hr2 (codes_ok h hr hP f i (d + 1) hPi (abv_down (x := [e]) ha hmS hT.symm (by simp) (by rw [hTm]; rfl)) (by omega)) (codes_ok h hr hP f j (d + 1) hPj (abv_down (x := e :: T i) (y := []) ha hmS hT.symm (by simp) (by rw [hTm]; simp)) (by omega))]
      rw [hTm, List.length_cons, List.length_append, Nat.add_comm 1]
def ownIn (A : gM) (r : Rw) : Prop := ∃ v, 10 + v ∈ r ∧ ¬ A 188 v = 0
theorem hasOwn_ok (h : rS A cp u T ch) (hr : reg A P S) (hP : ∀ n, P n → n < u) : ∀ (f n d : Nat), P n → abv T (fun k => k ∈ S) n d → S.length < f + d → (mX6_hasOwn cp f A (nI n) = some (A, 1) ∧ ownIn A (T n)) ∨ (mX6_hasOwn cp f A (nI n) = some (A, 0) ∧ ¬ ownIn A (T n))
  | 0, n, d, _, ha, hf => by have := abv_le ha S fun k hk => hk; omega
  | f + 1, n, d, hn, ha, hf => by
    have hu := h.2.2.1
    have hcp := okc_le h.2.1
    obtain ⟨m, e, hm, hPm, eb, hk, hnow, hT, -, hcase⟩ := now_kind h hr hP hn
    show (mX6_hasOwn_b0 cp (mX6_hasOwn cp f) A (nI n) = _ ∧ _) ∨ (mX6_hasOwn_b0 cp (mX6_hasOwn cp f) A (nI n) = _ ∧ _)
    rw [← hT]
    rcases hcase with ⟨h2, hTm⟩ | ⟨rfl, hl, hTm⟩ | ⟨h2, i, j, hPi, hPj, hi, hj, hmS, hl, hr2, hTm⟩
    · refine Or.inr ⟨hasOwn_low hnow (isPair6F (by omega) (by omega) hk (by omega) (by omega) (by omega)) (by omega) (by omega) hk (by omega) (by omega), ?_⟩
      rintro ⟨v, hv, -⟩
      rw [hTm, List.mem_singleton] at hv; omega
    · have e1 := hasOwn_var (rec := mX6_hasOwn cp f) hnow (isPair6F (by omega) (by omega) hk (by omega) (by omega) (by omega)) (by omega) (by omega) hk
      by_cases q : A 188 m = 0
      · rw [if_pos q] at e1
        refine Or.inr ⟨e1, ?_⟩
        rintro ⟨v, hv, hv2⟩
        rw [hTm, List.mem_singleton] at hv
        have : v = m := by omega
        subst this; exact hv2 q
      · rw [if_neg q] at e1
        exact Or.inl ⟨e1, m, by rw [hTm]; exact List.mem_singleton.mpr rfl, q⟩
    · have ii := hasOwn_ok h hr hP f i (d + 1) hPi (abv_down (x := [e]) ha hmS hT.symm (by simp) (by rw [hTm]; rfl)) (by omega)
      have jj := hasOwn_ok h hr hP f j (d + 1) hPj (abv_down (x := e :: T i) (y := []) ha hmS hT.symm (by simp) (by rw [hTm]; simp)) (by omega)
      have hp := isPair6T (by omega) (by omega) hk h2 (cp := cp)
      have key : ownIn A (T m) ↔ ownIn A (T i) ∨ ownIn A (T j) := by
        rw [hTm]
        constructor
        · rintro ⟨v, hv, q⟩
          rcases List.mem_cons.mp hv with hv | hv
          · omega
          · exact (List.mem_append.mp hv).elim (fun z => Or.inl ⟨v, z, q⟩) fun z => Or.inr ⟨v, z, q⟩
        · rintro (⟨v, hv, q⟩ | ⟨v, hv, q⟩)
          · exact ⟨v, List.mem_cons_of_mem _ (List.mem_append.mpr (Or.inl hv)), q⟩
          · exact ⟨v, List.mem_cons_of_mem _ (List.mem_append.mpr (Or.inr hv)), q⟩
      rcases ii with ⟨a1, a2⟩ | ⟨a1, a2⟩
      · rcases jj with ⟨b1, b2⟩ | ⟨b1, b2⟩
        · have := hasOwn_pair hnow hp (by omega) (by omega) hl hr2 (p := True) (q := True) (h1 := by rw [if_pos trivial]; exact a1) (h2 := by rw [if_pos trivial]; exact b1)
          rw [if_pos (Or.inl trivial)] at this
          exact Or.inl ⟨this, key.mpr (Or.inl a2)⟩
        · have := hasOwn_pair hnow hp (by omega) (by omega) hl hr2 (p := True) (q := False) (h1 := by rw [if_pos trivial]; exact a1) (h2 := by rw [if_neg not_false]; exact b1)
          rw [if_pos (Or.inl trivial)] at this
          exact Or.inl ⟨this, key.mpr (Or.inl a2)⟩
      · rcases jj with ⟨b1, b2⟩ | ⟨b1, b2⟩
        · have := hasOwn_pair hnow hp (by omega) (by omega) hl hr2 (p := False) (q := True) (h1 := by rw [if_neg not_false]; exact a1) (h2 := by rw [if_pos trivial]; exact b1)
          rw [if_pos (Or.inr trivial)] at this
          exact Or.inl ⟨this, key.mpr (Or.inr b2)⟩
        · have := hasOwn_pair hnow hp (by omega) (by omega) hl hr2 (p := False) (q := False) (h1 := by rw [if_neg not_false]; exact a1) (h2 := by rw [if_neg not_false]; exact b1)
          rw [if_neg (fun z => z.elim id id)] at this
          exact Or.inr ⟨this, fun z => (key.mp z).elim a2 b2⟩
end R6
