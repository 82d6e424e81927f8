/-! FINDING, SORT BY SORT: axles, ends, choices, plain ones, names -/
section CT
variable {F : Nat → Nat → Int32} {sz : Nat → Nat} {np N : Nat} {recC : gM → Int32 → Int32 → Option (gM × Int32)} {recR : Nat → gM → Int32 → Option (gM × (Nat × Nat × Nat) × Int32)} {lv p a d e l : Nat}
variable {Ac : gM} {uc : Nat} {Tc : Nat → Rw} {sc : Nat} {Ar : gM} {cp ur : Nat} {Tr : Nat → Rw} {ρ : Nat → Nat} {V W : Nat → Prop} {b ar : Nat} {env : Nat → Rw} {om : Nat → Nat → Nat} {tn : Nat → Nat} {ze zl zt : Nat}
theorem c_axle (hp : p < np) (ha : a < p) (hd : d < p) (F1 : F p 1 = nI a) (F2 : F p 2 = nI d) (hs : sz p = 1 + sz a + sz d) (ra : RP F sz np zl recC recR lv a) (rd : RP F sz np zl recC recR lv d) (har : ar + p ≤ 39) (pc : PTc Ac np F) (pr : PTr Ar np F) (h : Sim Ac uc Tc sc Ar cp b ur Tr ρ V W ar env om tn ze zl zt) (hb : bud (sz p) uc ur (prs Ar b ur).length sc) :
    FFail ar ze (sz p) (mX0_findAxle recC Ac (nI p) (nI lv)) (mX6_axleFound N cp recR Ar (nI p)) Ac sc Ar cp ∨ FOk (sz p) (mX0_findAxle recC Ac (nI p) (nI lv)) (mX6_axleFound N cp recR Ar (nI p)) (fun _ => True) Ac uc Tc sc Ar cp b ur Tr ρ V W ar env om tn ze zl zt := by
  have hpn := pc.2.1
  obtain ⟨b1, b2, b3, b4⟩ := hb
  have f1 : mX2_fact Ac (nI p) 1 = some (Ac, nI a) := by rw [fact_1 pc.1 hp hpn, pc.2.2 p hp 1 (by omega), F1]
  have p1 : mX6_pa cp Ar (nI p) 1 = some (Ar, nI a) := by rw [pa_1 (by omega), pr p hp 1 (by omega), F1]
  rcases ra (by omega) pc pr h ⟨by omega, by omega, by omega, by omega⟩ with h1 | ⟨Ac1, uc1, Tc1, sc1, Ar1, cp1, ur1, Tr1, ρ1, V1, W1, k1, n1, rc1, rr1, e1, r1, g1, w1, -⟩
  · refine Or.inl (FFail_tr (Prog_rfl h) h1 (by omega) (fun A' e => ?_) fun A' cp' k' n' e => ?_)
    · unfold mX0_findAxle mX0_findAxle_b0
      simp (disch := omega) only [lq2, lq3, lq4, lq5, lq6, lq7, lq8, lq9, lq10, lq11, lq40, lq59, lq60, lq61, lq100, lq500, lq2600, lq5208, lq1000000, ltT, ltF, leT, leF, eqT, eqF, lt0F, le0F, le0T, ge0T, eq0T, eq0F, eqm1F, ten0, m1lt0, eq_self, nI_add, nI_1, sub1, addm1, addm2, subn, cl0, cl1, ncl, ginT, gin0, gin1, ↓reduceIte, if_true, if_false, Nat.add_sub_cancel, obe, ↓gle, true_or, or_true, ↓(bnd f1), ↓(bnd e)]
    · unfold mX6_axleFound mX6_axleFound_b0 mX6_axleFound_b10
      simp (disch := omega) only [lq2, lq3, lq4, lq5, lq6, lq7, lq8, lq9, lq10, lq11, lq40, lq59, lq60, lq61, lq100, lq500, lq2600, lq5208, lq1000000, ltT, ltF, leT, leF, eqT, eqF, lt0F, le0F, le0T, ge0T, eq0T, eq0F, eqm1F, ten0, m1lt0, eq_self, nI_add, nI_1, sub1, addm1, addm2, subn, cl0, cl1, ncl, ginT, gin0, gin1, ↓reduceIte, if_true, if_false, Nat.add_sub_cancel, obe, ↓gle, true_or, or_true, ↓(bnd p1), ↓(bnd e)]
  have G1 := Prog_tr (Prog_rfl h) g1
  have u1 := prog_u g1
  have pc1 := PTc_off g1.2.2.2.2.1 pc
  have pr1 := PTr_off g1.2.2.2.2.2.1 pr
  have rb1 : rc1 ≤ 2600 ∧ rr1 ≤ 8000 := ⟨by have := w1.1; omega, by have := w1.2.1; omega⟩
  obtain ⟨q1, q2, q3, q4, q5, q6, q7, q8, q9, q10, q11, q12⟩ := id G1
  have f2 : mX2_fact Ac1 (nI p) 2 = some (Ac1, nI d) := by rw [fact_2 pc1.1 hp hpn, pc1.2.2 p hp 2 (by omega), F2]
  have p2 : mX6_pa cp1 Ar1 (nI p) 2 = some (Ar1, nI d) := by rw [pa_2 (by omega), pr1 p hp 2 (by omega), F2]
  rcases rd (by omega) pc1 pr1 g1.1 ⟨by omega, by omega, by omega, by omega⟩ with h2 | ⟨Ac2, uc2, Tc2, sc2, Ar2, cp2, ur2, Tr2, ρ2, V2, W2, k2, n2, rc2, rr2, e2, r2, g2, w2, -⟩
  · refine Or.inl (FFail_tr G1 h2 (by omega) (fun A' e => ?_) fun A' cp' k' n' e => ?_)
    · unfold mX0_findAxle mX0_findAxle_b0 mX0_findAxle_b62
      simp (disch := omega) only [lq2, lq3, lq4, lq5, lq6, lq7, lq8, lq9, lq10, lq11, lq40, lq59, lq60, lq61, lq100, lq500, lq2600, lq5208, lq1000000, ltT, ltF, leT, leF, eqT, eqF, lt0F, le0F, le0T, ge0T, eq0T, eq0F, eqm1F, ten0, m1lt0, eq_self, nI_add, nI_1, sub1, addm1, addm2, subn, cl0, cl1, ncl, ginT, gin0, gin1, ↓reduceIte, if_true, if_false, Nat.add_sub_cancel, obe, ↓gle, true_or, or_true, ↓(bnd f1), ↓(bnd e1), ↓(bnd f2), ↓(bnd e)]
    · unfold mX6_axleFound mX6_axleFound_b0 mX6_axleFound_b10 mX6_axleFound_b28 mX6_axleFound_b45
      simp (disch := omega) only [lq2, lq3, lq4, lq5, lq6, lq7, lq8, lq9, lq10, lq11, lq40, lq59, lq60, lq61, lq100, lq500, lq2600, lq5208, lq1000000, ltT, ltF, leT, leF, eqT, eqF, lt0F, le0F, le0T, ge0T, eq0T, eq0F, eqm1F, ten0, m1lt0, eq_self, nI_add, nI_1, sub1, addm1, addm2, subn, cl0, cl1, ncl, ginT, gin0, gin1, ↓reduceIte, if_true, if_false, Nat.add_sub_cancel, obe, ↓gle, true_or, or_true, ↓(bnd p1), ↓(bnd r1), ↓(bnd p2), ↓(bnd e)]
  have G2 := Prog_tr G1 g2
  have u2 := prog_u g2
  have rb2 : rc2 ≤ 2600 ∧ rr2 ≤ 8000 := ⟨by have := w2.1; omega, by have := w2.2.1; omega⟩
  obtain ⟨t1, t2, t3, t4, t5, t6, t7, t8, t9, t10, t11, t12⟩ := id G2
  have w1' := Row_prog g1.1.low g1.1.2.2.2.2.1 g2 w1
  obtain ⟨Ac4, Tc4, Ar4, cp4, Tr4, W4, k4, n4, e4, r4, g4, w4, -⟩ := both_pair (N := N) (c := 3) g2.1 (by omega) (by omega) (Or.inr rfl) w1' w2
  have G4 := Prog_tr G2 g4
  have e4' : mX4_make Ac2 3 (nI rc1) (nI rc2) = some (Ac4, nI uc2) := by rw [lq3]; exact e4
  have r4' : mX6_node N cp2 Ar2 3 (nI rr1) (nI rr2) = some (Ar4, (cp4, k4, n4), nI ur2) := by rw [lq3]; exact r4
  refine Or.inr (FOk_tr G4 w4 ?_ ?_ (by omega) (by omega) (by omega) (by omega) trivial)
  · unfold mX0_findAxle mX0_findAxle_b0 mX0_findAxle_b62
    simp (disch := omega) only [lq2, lq3, lq4, lq5, lq6, lq7, lq8, lq9, lq10, lq11, lq40, lq59, lq60, lq61, lq100, lq500, lq2600, lq5208, lq1000000, ltT, ltF, leT, leF, eqT, eqF, lt0F, le0F, le0T, ge0T, eq0T, eq0F, eqm1F, ten0, m1lt0, eq_self, nI_add, nI_1, sub1, addm1, addm2, subn, cl0, cl1, ncl, ginT, gin0, gin1, ↓reduceIte, if_true, if_false, Nat.add_sub_cancel, obe, ↓gle, true_or, or_true, ↓(bnd f1), ↓(bnd e1), ↓(bnd f2), ↓(bnd e2), ↓(bnd e4')]
  · unfold mX6_axleFound mX6_axleFound_b0 mX6_axleFound_b10 mX6_axleFound_b28 mX6_axleFound_b45
    simp (disch := omega) only [lq2, lq3, lq4, lq5, lq6, lq7, lq8, lq9, lq10, lq11, lq40, lq59, lq60, lq61, lq100, lq500, lq2600, lq5208, lq1000000, ltT, ltF, leT, leF, eqT, eqF, lt0F, le0F, le0T, ge0T, eq0T, eq0F, eqm1F, ten0, m1lt0, eq_self, nI_add, nI_1, sub1, addm1, addm2, subn, cl0, cl1, ncl, ginT, gin0, gin1, ↓reduceIte, if_true, if_false, Nat.add_sub_cancel, obe, ↓gle, true_or, or_true, ↓(bnd p1), ↓(bnd r1), ↓(bnd p2), ↓(bnd r2), ↓(bnd r4')]
theorem c_end (hp : p < np) (ha : a < p) (F1 : F p 1 = nI a) (F4 : F p 4 = nI e) (he : e ≤ 1) (hs : sz p = 1 + sz a) (ra : RP F sz np zl recC recR lv a) (har : ar + p ≤ 39) (pc : PTc Ac np F) (pr : PTr Ar np F) (h : Sim Ac uc Tc sc Ar cp b ur Tr ρ V W ar env om tn ze zl zt) (hb : bud (sz p) uc ur (prs Ar b ur).length sc) :
    FFail ar ze (sz p) (mX0_findEnd recC Ac (nI p) (nI lv)) (mX6_endFound N cp recR Ar (nI p)) Ac sc Ar cp ∨ FOk (sz p) (mX0_findEnd recC Ac (nI p) (nI lv)) (mX6_endFound N cp recR Ar (nI p)) (fun _ => True) Ac uc Tc sc Ar cp b ur Tr ρ V W ar env om tn ze zl zt := by
  have hpn := pc.2.1
  obtain ⟨b1, b2, b3, b4⟩ := hb
  have f1 : mX2_fact Ac (nI p) 1 = some (Ac, nI a) := by rw [fact_1 pc.1 hp hpn, pc.2.2 p hp 1 (by omega), F1]
  have p1 : mX6_pa cp Ar (nI p) 1 = some (Ar, nI a) := by rw [pa_1 (by omega), pr p hp 1 (by omega), F1]
  rcases ra (by omega) pc pr h ⟨by omega, by omega, by omega, by omega⟩ with h1 | ⟨Ac1, uc1, Tc1, sc1, Ar1, cp1, ur1, Tr1, ρ1, V1, W1, k1, n1, rc1, rr1, e1, r1, g1, w1, -⟩
  · refine Or.inl (FFail_tr (Prog_rfl h) h1 (by omega) (fun A' e => ?_) fun A' cp' k' n' e => ?_)
    · unfold mX0_findEnd mX0_findEnd_b0
      simp (disch := omega) only [lq2, lq3, lq4, lq5, lq6, lq7, lq8, lq9, lq10, lq11, lq40, lq59, lq60, lq61, lq100, lq500, lq2600, lq5208, lq1000000, ltT, ltF, leT, leF, eqT, eqF, lt0F, le0F, le0T, ge0T, eq0T, eq0F, eqm1F, ten0, m1lt0, eq_self, nI_add, nI_1, sub1, addm1, addm2, subn, cl0, cl1, ncl, ginT, gin0, gin1, ↓reduceIte, if_true, if_false, Nat.add_sub_cancel, obe, ↓gle, true_or, or_true, ↓(bnd f1), ↓(bnd e)]
    · unfold mX6_endFound mX6_endFound_b0 mX6_endFound_b10
      simp (disch := omega) only [lq2, lq3, lq4, lq5, lq6, lq7, lq8, lq9, lq10, lq11, lq40, lq59, lq60, lq61, lq100, lq500, lq2600, lq5208, lq1000000, ltT, ltF, leT, leF, eqT, eqF, lt0F, le0F, le0T, ge0T, eq0T, eq0F, eqm1F, ten0, m1lt0, eq_self, nI_add, nI_1, sub1, addm1, addm2, subn, cl0, cl1, ncl, ginT, gin0, gin1, ↓reduceIte, if_true, if_false, Nat.add_sub_cancel, obe, ↓gle, true_or, or_true, ↓(bnd p1), ↓(bnd e)]
  have G1 := Prog_tr (Prog_rfl h) g1
  have u1 := prog_u g1
  have pc1 := PTc_off g1.2.2.2.2.1 pc
  have pr1 := PTr_off g1.2.2.2.2.2.1 pr
  have rb1 : rc1 ≤ 2600 ∧ rr1 ≤ 8000 := ⟨by have := w1.1; omega, by have := w1.2.1; omega⟩
  obtain ⟨q1, q2, q3, q4, q5, q6, q7, q8, q9, q10, q11, q12⟩ := id G1
  obtain ⟨Ac3, Tc3, Ar3, cp3, Tr3, ρ3, V3, W3, k3, n3, e3, r3, g3, w3, -⟩ := both_var (N := N) g1.1 (by omega) (by omega)
  have G3 := Prog_tr G1 g3
  have w1' := Row_prog g1.1.low g1.1.2.2.2.2.1 g3 w1
  obtain ⟨Ac4, Tc4, Ar4, cp4, Tr4, ρ4, V4, W4, k4, n4, e4, r4, g4, w4, -⟩ := both_var (N := N) g3.1 (by omega) (by omega)
  have G4 := Prog_tr G3 g4
  have w1'' := Row_prog g3.1.low g3.1.2.2.2.2.1 g4 w1'
  have w3' := Row_prog g3.1.low g3.1.2.2.2.2.1 g4 w3
  obtain ⟨Ac5, Tc5, Ar5, cp5, Tr5, W5, k5, n5, e5, r5, g5, w5, -⟩ := both_pair (N := N) (c := 3) g4.1 (by omega) (by omega) (Or.inr rfl) w3' w4
  have G5 := Prog_tr G4 g5
  have v1 := Row_prog g4.1.low g4.1.2.2.2.2.1 g5 w1''
  have v3 := Row_prog g4.1.low g4.1.2.2.2.2.1 g5 w3'
  have v4 := Row_prog g4.1.low g4.1.2.2.2.2.1 g5 w4
  have hpr : (prs Ar5 b (ur1 + 1 + 1 + 1)).length + 1 < 1250 := by have := G5.2.2.2.2.2.2.2.2.1; omega
  have hsc : sc1 ≤ 1999990000 := by have := G5.2.2.2.2.2.2.2.2.2.1; omega
  have e5' : mX4_make Ac4 3 (nI uc1) (nI (uc1 + 1)) = some (Ac5, nI (uc1 + 1 + 1)) := by rw [lq3]; exact e5
  have r5' : mX6_node N cp4 Ar4 3 (nI ur1) (nI (ur1 + 1)) = some (Ar5, (cp5, k5, n5), nI (ur1 + 1 + 1)) := by rw [lq3]; exact r5
  rcases both_match (part := nI p) g5.1 v1 w5 hpr hsc with ⟨f, Ac6, sc6, Ar6, z1, z2, m1, j1, o1, st, hs5, o2, hO, y1, y2⟩ | ⟨Ac6, Tc6, sc6, Ar6, Tr6, W6, m1, j1, g6⟩
  · refine Or.inl (FFail_at (f := f) (p := p) G5 o1 st (by omega) o2 hO ⟨z1, by omega⟩ (by omega) (by omega) y1 y2 ?_ ?_)
    · unfold mX0_findEnd mX0_findEnd_b0 mX0_findEnd_b94
      simp (disch := omega) only [lq2, lq3, lq4, lq5, lq6, lq7, lq8, lq9, lq10, lq11, lq40, lq59, lq60, lq61, lq100, lq500, lq2600, lq5208, lq1000000, ltT, ltF, leT, leF, eqT, eqF, lt0F, le0F, le0T, ge0T, eq0T, eq0F, eqm1F, ten0, m1lt0, eq_self, nI_add, nI_1, sub1, addm1, addm2, subn, cl0, cl1, ncl, ginT, gin0, gin1, ↓reduceIte, if_true, if_false, Nat.add_sub_cancel, obe, ↓gle, true_or, or_true, ↓(bnd f1), ↓(bnd e1), ↓(bnd e3), ↓(bnd e4), ↓(bnd e5'), ↓(bnd m1), cfail_k]
    · unfold mX6_endFound mX6_endFound_b0 mX6_endFound_b10 mX6_endFound_b22 mX6_endFound_b27 mX6_endFound_b39 mX6_endFound_b63
      simp (disch := omega) only [lq2, lq3, lq4, lq5, lq6, lq7, lq8, lq9, lq10, lq11, lq40, lq59, lq60, lq61, lq100, lq500, lq2600, lq5208, lq1000000, ltT, ltF, leT, leF, eqT, eqF, lt0F, le0F, le0T, ge0T, eq0T, eq0F, eqm1F, ten0, m1lt0, eq_self, nI_add, nI_1, sub1, addm1, addm2, subn, cl0, cl1, ncl, ginT, gin0, gin1, ↓reduceIte, if_true, if_false, Nat.add_sub_cancel, obe, ↓gle, true_or, or_true, ↓(bnd p1), ↓(bnd r1), ↓(bnd r3), ↓(bnd r4), ↓(bnd r5'), ↓(bnd j1)]
  · have G6 := Prog_tr G5 g6
    have pc6 := PTc_off G6.2.2.2.2.1 pc
    have pr6 := PTr_off G6.2.2.2.2.2.1 pr
    have f4 : mX2_fact Ac6 (nI p) 4 = some (Ac6, nI e) := by rw [fact_4 pc6.1 hp hpn, pc6.2.2 p hp 4 (by omega), F4]
    have p4 : mX6_pa cp5 Ar6 (nI p) 4 = some (Ar6, nI e) := by rw [pa_4 (by omega), pr6 p hp 4 (by omega), F4]
    by_cases he0 : e = 0
    · have x3 := Row_prog g5.1.low g5.1.2.2.2.2.1 g6 v3
      refine Or.inr (FOk_tr G6 x3 ?_ ?_ (by omega) (by omega) (by omega) (by omega) trivial)
      · unfold mX0_findEnd mX0_findEnd_b0 mX0_findEnd_b94
        simp (disch := omega) only [lq2, lq3, lq4, lq5, lq6, lq7, lq8, lq9, lq10, lq11, lq40, lq59, lq60, lq61, lq100, lq500, lq2600, lq5208, lq1000000, ltT, ltF, leT, leF, eqT, eqF, lt0F, le0F, le0T, ge0T, eq0T, eq0F, eqm1F, ten0, m1lt0, eq_self, nI_add, nI_1, sub1, addm1, addm2, subn, cl0, cl1, ncl, ginT, gin0, gin1, ↓reduceIte, if_true, if_false, Nat.add_sub_cancel, obe, ↓gle, true_or, or_true, ↓(bnd f1), ↓(bnd e1), ↓(bnd e3), ↓(bnd e4), ↓(bnd e5'), ↓(bnd m1), ↓(bnd f4)]
      · unfold mX6_endFound mX6_endFound_b0 mX6_endFound_b10 mX6_endFound_b22 mX6_endFound_b27 mX6_endFound_b39 mX6_endFound_b63
        simp (disch := omega) only [lq2, lq3, lq4, lq5, lq6, lq7, lq8, lq9, lq10, lq11, lq40, lq59, lq60, lq61, lq100, lq500, lq2600, lq5208, lq1000000, ltT, ltF, leT, leF, eqT, eqF, lt0F, le0F, le0T, ge0T, eq0T, eq0F, eqm1F, ten0, m1lt0, eq_self, nI_add, nI_1, sub1, addm1, addm2, subn, cl0, cl1, ncl, ginT, gin0, gin1, ↓reduceIte, if_true, if_false, Nat.add_sub_cancel, obe, ↓gle, true_or, or_true, ↓(bnd p1), ↓(bnd r1), ↓(bnd r3), ↓(bnd r4), ↓(bnd r5'), ↓(bnd j1), ↓(bnd p4), Nat.add_zero]
    · have x4 := Row_prog g5.1.low g5.1.2.2.2.2.1 g6 v4
      refine Or.inr (FOk_tr G6 x4 ?_ ?_ (by omega) (by omega) (by omega) (by omega) trivial)
      · unfold mX0_findEnd mX0_findEnd_b0 mX0_findEnd_b94
        simp (disch := omega) only [lq2, lq3, lq4, lq5, lq6, lq7, lq8, lq9, lq10, lq11, lq40, lq59, lq60, lq61, lq100, lq500, lq2600, lq5208, lq1000000, ltT, ltF, leT, leF, eqT, eqF, lt0F, le0F, le0T, ge0T, eq0T, eq0F, eqm1F, ten0, m1lt0, eq_self, nI_add, nI_1, sub1, addm1, addm2, subn, cl0, cl1, ncl, ginT, gin0, gin1, ↓reduceIte, if_true, if_false, Nat.add_sub_cancel, obe, ↓gle, true_or, or_true, ↓(bnd f1), ↓(bnd e1), ↓(bnd e3), ↓(bnd e4), ↓(bnd e5'), ↓(bnd m1), ↓(bnd f4)]
      · unfold mX6_endFound mX6_endFound_b0 mX6_endFound_b10 mX6_endFound_b22 mX6_endFound_b27 mX6_endFound_b39 mX6_endFound_b63
        simp (disch := omega) only [lq2, lq3, lq4, lq5, lq6, lq7, lq8, lq9, lq10, lq11, lq40, lq59, lq60, lq61, lq100, lq500, lq2600, lq5208, lq1000000, ltT, ltF, leT, leF, eqT, eqF, lt0F, le0F, le0T, ge0T, eq0T, eq0F, eqm1F, ten0, m1lt0, eq_self, nI_add, nI_1, sub1, addm1, addm2, subn, cl0, cl1, ncl, ginT, gin0, gin1, ↓reduceIte, if_true, if_false, Nat.add_sub_cancel, obe, ↓gle, true_or, or_true, ↓(bnd p1), ↓(bnd r1), ↓(bnd r3), ↓(bnd r4), ↓(bnd r5'), ↓(bnd j1), ↓(bnd p4), Nat.add_zero]
theorem c_choice (hp : p < np) (ha : a < p) (hd : d < p) (he : e < p) (F1 : F p 1 = nI a) (F2 : F p 2 = nI d) (F3 : F p 3 = nI e) (hs : sz p = 1 + sz a + sz d + sz e) (ra : RP F sz np zl recC recR lv a) (rd : RP F sz np zl recC recR lv d) (re : RP F sz np zl recC recR lv e) (har : ar + p ≤ 39) (pc : PTc Ac np F) (pr : PTr Ar np F) (h : Sim Ac uc Tc sc Ar cp b ur Tr ρ V W ar env om tn ze zl zt) (hb : bud (sz p) uc ur (prs Ar b ur).length sc) :
    FFail ar ze (sz p) (mX0_findChoice recC Ac (nI p) (nI lv)) (mX6_choiceFound N cp recR Ar (nI p)) Ac sc Ar cp ∨ FOk (sz p) (mX0_findChoice recC Ac (nI p) (nI lv)) (mX6_choiceFound N cp recR Ar (nI p)) (fun _ => True) Ac uc Tc sc Ar cp b ur Tr ρ V W ar env om tn ze zl zt := by
  have hpn := pc.2.1
  obtain ⟨b1, b2, b3, b4⟩ := hb
  have f1 : mX2_fact Ac (nI p) 1 = some (Ac, nI a) := by rw [fact_1 pc.1 hp hpn, pc.2.2 p hp 1 (by omega), F1]
  have p1 : mX6_pa cp Ar (nI p) 1 = some (Ar, nI a) := by rw [pa_1 (by omega), pr p hp 1 (by omega), F1]
  rcases ra (by omega) pc pr h ⟨by omega, by omega, by omega, by omega⟩ with h1 | ⟨Ac1, uc1, Tc1, sc1, Ar1, cp1, ur1, Tr1, ρ1, V1, W1, k1, n1, rc1, rr1, e1, r1, g1, w1, -⟩
  · refine Or.inl (FFail_tr (Prog_rfl h) h1 (by omega) (fun A' e => ?_) fun A' cp' k' n' e => ?_)
    · unfold mX0_findChoice mX0_findChoice_b0
      simp (disch := omega) only [lq2, lq3, lq4, lq5, lq6, lq7, lq8, lq9, lq10, lq11, lq40, lq59, lq60, lq61, lq100, lq500, lq2600, lq5208, lq1000000, ltT, ltF, leT, leF, eqT, eqF, lt0F, le0F, le0T, ge0T, eq0T, eq0F, eqm1F, ten0, m1lt0, eq_self, nI_add, nI_1, sub1, addm1, addm2, subn, cl0, cl1, ncl, ginT, gin0, gin1, ↓reduceIte, if_true, if_false, Nat.add_sub_cancel, obe, ↓gle, true_or, or_true, ↓(bnd f1), ↓(bnd e)]
    · unfold mX6_choiceFound mX6_choiceFound_b0 mX6_choiceFound_b10 mX6_choiceFound_b32
      simp (disch := omega) only [lq2, lq3, lq4, lq5, lq6, lq7, lq8, lq9, lq10, lq11, lq40, lq59, lq60, lq61, lq100, lq500, lq2600, lq5208, lq1000000, ltT, ltF, leT, leF, eqT, eqF, lt0F, le0F, le0T, ge0T, eq0T, eq0F, eqm1F, ten0, m1lt0, eq_self, nI_add, nI_1, sub1, addm1, addm2, subn, cl0, cl1, ncl, ginT, gin0, gin1, ↓reduceIte, if_true, if_false, Nat.add_sub_cancel, obe, ↓gle, true_or, or_true, ↓(bnd p1), ↓(bnd e)]
  have G1 := Prog_tr (Prog_rfl h) g1
  have u1 := prog_u g1
  have pc1 := PTc_off g1.2.2.2.2.1 pc
  have pr1 := PTr_off g1.2.2.2.2.2.1 pr
  have rb1 : rc1 ≤ 2600 ∧ rr1 ≤ 8000 := ⟨by have := w1.1; omega, by have := w1.2.1; omega⟩
  obtain ⟨q1, q2, q3, q4, q5, q6, q7, q8, q9, q10, q11, q12⟩ := id G1
  obtain ⟨Ar3, cp3, Tr3, W3, k3, n3, r3, g3, w3, hT1⟩ := both_leaf (N := N) (c := 1) g1.1 (by omega) (by omega)
  have G3 := Prog_tr G1 g3
  have w1' := Row_prog g1.1.low g1.1.2.2.2.2.1 g3 w1
  have hpr : (prs Ar3 b (ur1 + 1)).length + 1 < 1250 := by have := G3.2.2.2.2.2.2.2.2.1; omega
  have hsc : sc1 ≤ 1999990000 := by have := G3.2.2.2.2.2.2.2.2.2.1; omega
  have r3' : mX6_node N cp1 Ar1 1 (-1) (-1) = some (Ar3, (cp3, k3, n3), nI ur1) := by
    rw [show (1 : Int32) = nI 1 from one_nI]; exact r3
  rcases both_match (part := nI p) g3.1 w1' w3 hpr hsc with ⟨f, Ac4, sc4, Ar4, z1, z2, m1, j1, o1, st, hs5, o2, hO, y1, y2⟩ | ⟨Ac4, Tc4, sc4, Ar4, Tr4, W4, m1, j1, g4⟩
  · have m1' : mX4_match Ac1 (nI rc1) 1 = some (Ac4, nI f) := by rw [show (1 : Int32) = nI 1 from one_nI]; exact m1
    refine Or.inl (FFail_at (f := f) (p := p) G3 o1 st (by omega) o2 hO ⟨z1, by omega⟩ (by omega) (by omega) y1 y2 ?_ ?_)
    · unfold mX0_findChoice mX0_findChoice_b0 mX0_findChoice_b127
      simp (disch := omega) only [lq2, lq3, lq4, lq5, lq6, lq7, lq8, lq9, lq10, lq11, lq40, lq59, lq60, lq61, lq100, lq500, lq2600, lq5208, lq1000000, ltT, ltF, leT, leF, eqT, eqF, lt0F, le0F, le0T, ge0T, eq0T, eq0F, eqm1F, ten0, m1lt0, eq_self, nI_add, nI_1, sub1, addm1, addm2, subn, cl0, cl1, ncl, ginT, gin0, gin1, ↓reduceIte, if_true, if_false, Nat.add_sub_cancel, obe, ↓gle, true_or, or_true, ↓(bnd f1), ↓(bnd e1), ↓(bnd m1'), cfail_k]
    · unfold mX6_choiceFound mX6_choiceFound_b0 mX6_choiceFound_b10 mX6_choiceFound_b25 mX6_choiceFound_b32 mX6_choiceFound_b44 mX6_choiceFound_b62 mX6_choiceFound_b85 mX6_choiceFound_b86
      simp (disch := omega) only [lq2, lq3, lq4, lq5, lq6, lq7, lq8, lq9, lq10, lq11, lq40, lq59, lq60, lq61, lq100, lq500, lq2600, lq5208, lq1000000, ltT, ltF, leT, leF, eqT, eqF, lt0F, le0F, le0T, ge0T, eq0T, eq0F, eqm1F, ten0, m1lt0, eq_self, nI_add, nI_1, sub1, addm1, addm2, subn, cl0, cl1, ncl, ginT, gin0, gin1, ↓reduceIte, if_true, if_false, Nat.add_sub_cancel, obe, ↓gle, true_or, or_true, ↓(bnd p1), ↓(bnd r1), ↓(bnd r3'), ↓(bnd j1)]
  have m1' : mX4_match Ac1 (nI rc1) 1 = some (Ac4, 0) := by rw [show (1 : Int32) = nI 1 from one_nI]; exact m1
  have G4 := Prog_tr G3 g4
  have pc4 := PTc_off G4.2.2.2.2.1 pc
  have pr4 := PTr_off G4.2.2.2.2.2.1 pr
  have f2 : mX2_fact Ac4 (nI p) 2 = some (Ac4, nI d) := by rw [fact_2 pc4.1 hp hpn, pc4.2.2 p hp 2 (by omega), F2]
  have p2 : mX6_pa cp3 Ar4 (nI p) 2 = some (Ar4, nI d) := by rw [pa_2 (by omega), pr4 p hp 2 (by omega), F2]
  obtain ⟨x1, x2, x3, x4, x5, x6, x7, x8, x9, x10, x11, x12⟩ := id G4
  rcases rd (by omega) pc4 pr4 g4.1 ⟨by omega, by omega, by omega, by omega⟩ with h2 | ⟨Ac5, uc5, Tc5, sc5, Ar5, cp5, ur5, Tr5, ρ5, V5, W5, k5, n5, rc5, rr5, e5, r5, g5, w5, -⟩
  · refine Or.inl (FFail_tr G4 h2 (by omega) (fun A' e => ?_) fun A' cp' k' n' e => ?_)
    · unfold mX0_findChoice mX0_findChoice_b0 mX0_findChoice_b127
      simp (disch := omega) only [lq2, lq3, lq4, lq5, lq6, lq7, lq8, lq9, lq10, lq11, lq40, lq59, lq60, lq61, lq100, lq500, lq2600, lq5208, lq1000000, ltT, ltF, leT, leF, eqT, eqF, lt0F, le0F, le0T, ge0T, eq0T, eq0F, eqm1F, ten0, m1lt0, eq_self, nI_add, nI_1, sub1, addm1, addm2, subn, cl0, cl1, ncl, ginT, gin0, gin1, ↓reduceIte, if_true, if_false, Nat.add_sub_cancel, obe, ↓gle, true_or, or_true, ↓(bnd f1), ↓(bnd e1), ↓(bnd m1'), ↓(bnd f2), ↓(bnd e)]
    · unfold mX6_choiceFound mX6_choiceFound_b0 mX6_choiceFound_b10 mX6_choiceFound_b25 mX6_choiceFound_b32 mX6_choiceFound_b44 mX6_choiceFound_b62 mX6_choiceFound_b85 mX6_choiceFound_b86
      simp (disch := omega) only [lq2, lq3, lq4, lq5, lq6, lq7, lq8, lq9, lq10, lq11, lq40, lq59, lq60, lq61, lq100, lq500, lq2600, lq5208, lq1000000, ltT, ltF, leT, leF, eqT, eqF, lt0F, le0F, le0T, ge0T, eq0T, eq0F, eqm1F, ten0, m1lt0, eq_self, nI_add, nI_1, sub1, addm1, addm2, subn, cl0, cl1, ncl, ginT, gin0, gin1, ↓reduceIte, if_true, if_false, Nat.add_sub_cancel, obe, ↓gle, true_or, or_true, ↓(bnd p1), ↓(bnd r1), ↓(bnd r3'), ↓(bnd j1), ↓(bnd p2), ↓(bnd e), Nat.add_zero]
  have G5 := Prog_tr G4 g5
  have u5 := prog_u g5
  have pc5 := PTc_off G5.2.2.2.2.1 pc
  have pr5 := PTr_off G5.2.2.2.2.2.1 pr
  have f3 : mX2_fact Ac5 (nI p) 3 = some (Ac5, nI e) := by rw [fact_3 pc5.1 hp hpn, pc5.2.2 p hp 3 (by omega), F3]
  have p3 : mX6_pa cp5 Ar5 (nI p) 3 = some (Ar5, nI e) := by rw [pa_3 (by omega), pr5 p hp 3 (by omega), F3]
  have rb5 : rc5 ≤ 2600 ∧ rr5 ≤ 8000 := ⟨by have := w5.1; omega, by have := w5.2.1; omega⟩
  obtain ⟨y1, y2, y3, y4, y5, y6, y7, y8, y9, y10, y11, y12⟩ := id G5
  rcases re (by omega) pc5 pr5 g5.1 ⟨by omega, by omega, by omega, by omega⟩ with h2 | ⟨Ac6, uc6, Tc6, sc6, Ar6, cp6, ur6, Tr6, ρ6, V6, W6, k6, n6, rc6, rr6, e6, r6, g6, w6, -⟩
  · refine Or.inl (FFail_tr G5 h2 (by omega) (fun A' e => ?_) fun A' cp' k' n' e => ?_)
    · unfold mX0_findChoice mX0_findChoice_b0 mX0_findChoice_b127
      simp (disch := omega) only [lq2, lq3, lq4, lq5, lq6, lq7, lq8, lq9, lq10, lq11, lq40, lq59, lq60, lq61, lq100, lq500, lq2600, lq5208, lq1000000, ltT, ltF, leT, leF, eqT, eqF, lt0F, le0F, le0T, ge0T, eq0T, eq0F, eqm1F, ten0, m1lt0, eq_self, nI_add, nI_1, sub1, addm1, addm2, subn, cl0, cl1, ncl, ginT, gin0, gin1, ↓reduceIte, if_true, if_false, Nat.add_sub_cancel, obe, ↓gle, true_or, or_true, ↓(bnd f1), ↓(bnd e1), ↓(bnd m1'), ↓(bnd f2), ↓(bnd e5), ↓(bnd f3), ↓(bnd e)]
    · unfold mX6_choiceFound mX6_choiceFound_b0 mX6_choiceFound_b10 mX6_choiceFound_b25 mX6_choiceFound_b32 mX6_choiceFound_b44 mX6_choiceFound_b62 mX6_choiceFound_b85 mX6_choiceFound_b86
      simp (disch := omega) only [lq2, lq3, lq4, lq5, lq6, lq7, lq8, lq9, lq10, lq11, lq40, lq59, lq60, lq61, lq100, lq500, lq2600, lq5208, lq1000000, ltT, ltF, leT, leF, eqT, eqF, lt0F, le0F, le0T, ge0T, eq0T, eq0F, eqm1F, ten0, m1lt0, eq_self, nI_add, nI_1, sub1, addm1, addm2, subn, cl0, cl1, ncl, ginT, gin0, gin1, ↓reduceIte, if_true, if_false, Nat.add_sub_cancel, obe, ↓gle, true_or, or_true, ↓(bnd p1), ↓(bnd r1), ↓(bnd r3'), ↓(bnd j1), ↓(bnd p2), ↓(bnd r5), ↓(bnd p3), ↓(bnd e), Nat.add_zero]
  have G6 := Prog_tr G5 g6
  have u6 := prog_u g6
  have rb6 : rc6 ≤ 2600 ∧ rr6 ≤ 8000 := ⟨by have := w6.1; omega, by have := w6.2.1; omega⟩
  have w5' := Row_prog g5.1.low g5.1.2.2.2.2.1 g6 w5
  have hpr6 : (prs Ar6 b ur6).length + 1 < 1250 := by have := G6.2.2.2.2.2.2.2.2.1; omega
  have hsc6 : sc6 ≤ 1999990000 := by have := G6.2.2.2.2.2.2.2.2.2.1; omega
  rcases both_match (part := nI p) g6.1 w5' w6 hpr6 hsc6 with ⟨f, Ac7, sc7, Ar7, z1, z2, m2, j2, o1, st, hs5, o2, hO, v1, v2⟩ | ⟨Ac7, Tc7, sc7, Ar7, Tr7, W7, m2, j2, g7⟩
  · refine Or.inl (FFail_at (f := f) (p := p) G6 o1 st (by omega) o2 hO ⟨z1, by omega⟩ (by omega) (by omega) v1 v2 ?_ ?_)
    · unfold mX0_findChoice mX0_findChoice_b0 mX0_findChoice_b127
      simp (disch := omega) only [lq2, lq3, lq4, lq5, lq6, lq7, lq8, lq9, lq10, lq11, lq40, lq59, lq60, lq61, lq100, lq500, lq2600, lq5208, lq1000000, ltT, ltF, leT, leF, eqT, eqF, lt0F, le0F, le0T, ge0T, eq0T, eq0F, eqm1F, ten0, m1lt0, eq_self, nI_add, nI_1, sub1, addm1, addm2, subn, cl0, cl1, ncl, ginT, gin0, gin1, ↓reduceIte, if_true, if_false, Nat.add_sub_cancel, obe, ↓gle, true_or, or_true, ↓(bnd f1), ↓(bnd e1), ↓(bnd m1'), ↓(bnd f2), ↓(bnd e5), ↓(bnd f3), ↓(bnd e6), ↓(bnd m2), cfail_k]
    · unfold mX6_choiceFound mX6_choiceFound_b0 mX6_choiceFound_b10 mX6_choiceFound_b25 mX6_choiceFound_b32 mX6_choiceFound_b44 mX6_choiceFound_b62 mX6_choiceFound_b85 mX6_choiceFound_b86
      simp (disch := omega) only [lq2, lq3, lq4, lq5, lq6, lq7, lq8, lq9, lq10, lq11, lq40, lq59, lq60, lq61, lq100, lq500, lq2600, lq5208, lq1000000, ltT, ltF, leT, leF, eqT, eqF, lt0F, le0F, le0T, ge0T, eq0T, eq0F, eqm1F, ten0, m1lt0, eq_self, nI_add, nI_1, sub1, addm1, addm2, subn, cl0, cl1, ncl, ginT, gin0, gin1, ↓reduceIte, if_true, if_false, Nat.add_sub_cancel, obe, ↓gle, true_or, or_true, ↓(bnd p1), ↓(bnd r1), ↓(bnd r3'), ↓(bnd j1), ↓(bnd p2), ↓(bnd r5), ↓(bnd p3), ↓(bnd r6), ↓(bnd j2), Nat.add_zero]
  · have G7 := Prog_tr G6 g7
    have w7 := Row_prog g6.1.low g6.1.2.2.2.2.1 g7 w5'
    refine Or.inr (FOk_tr G7 w7 ?_ ?_ (by omega) (by omega) (by omega) (by omega) trivial)
    · unfold mX0_findChoice mX0_findChoice_b0 mX0_findChoice_b127
      simp (disch := omega) only [lq2, lq3, lq4, lq5, lq6, lq7, lq8, lq9, lq10, lq11, lq40, lq59, lq60, lq61, lq100, lq500, lq2600, lq5208, lq1000000, ltT, ltF, leT, leF, eqT, eqF, lt0F, le0F, le0T, ge0T, eq0T, eq0F, eqm1F, ten0, m1lt0, eq_self, nI_add, nI_1, sub1, addm1, addm2, subn, cl0, cl1, ncl, ginT, gin0, gin1, ↓reduceIte, if_true, if_false, Nat.add_sub_cancel, obe, ↓gle, true_or, or_true, ↓(bnd f1), ↓(bnd e1), ↓(bnd m1'), ↓(bnd f2), ↓(bnd e5), ↓(bnd f3), ↓(bnd e6), ↓(bnd m2)]
    · unfold mX6_choiceFound mX6_choiceFound_b0 mX6_choiceFound_b10 mX6_choiceFound_b25 mX6_choiceFound_b32 mX6_choiceFound_b44 mX6_choiceFound_b62 mX6_choiceFound_b85 mX6_choiceFound_b86
      simp (disch := omega) only [lq2, lq3, lq4, lq5, lq6, lq7, lq8, lq9, lq10, lq11, lq40, lq59, lq60, lq61, lq100, lq500, lq2600, lq5208, lq1000000, ltT, ltF, leT, leF, eqT, eqF, lt0F, le0F, le0T, ge0T, eq0T, eq0F, eqm1F, ten0, m1lt0, eq_self, nI_add, nI_1, sub1, addm1, addm2, subn, cl0, cl1, ncl, ginT, gin0, gin1, ↓reduceIte, if_true, if_false, Nat.add_sub_cancel, obe, ↓gle, true_or, or_true, ↓(bnd p1), ↓(bnd r1), ↓(bnd r3'), ↓(bnd j1), ↓(bnd p2), ↓(bnd r5), ↓(bnd p3), ↓(bnd r6), ↓(bnd j2), Nat.add_zero]
end CT
