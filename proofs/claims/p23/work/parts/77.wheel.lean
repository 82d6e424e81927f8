/-! WHEELS ON BOTH SIDES -/
section CT
variable {F : Nat → Nat → Int32} {sz : Nat → Nat} {np N : Nat} {recC : gM → Int32 → Int32 → Option (gM × Int32)} {recR : Nat → gM → Int32 → Option (gM × (Nat × Nat × Nat) × Int32)} {lv p a d e l : Nat}
variable {Ac : gM} {uc : Nat} {Tc : Nat → Rw} {sc : Nat} {Ar : gM} {cp ur : Nat} {Tr : Nat → Rw} {ρ : Nat → Nat} {V W : Nat → Prop} {b ar : Nat} {env : Nat → Rw} {om : Nat → Nat → Nat} {tn : Nat → Nat} {ze zl zt : Nat}
theorem c_wheel (hp : p < np) (ha : a < p) (F1 : F p 1 = nI a) (F4 : F p 4 = nI l) (hl : l ≤ 9) (hs : sz p = 1 + sz a) (ra : RP F sz np zl recC recR lv a) (har : ar + p ≤ 39) (pc : PTc Ac np F) (pr : PTr Ar np F) (h : Sim Ac uc Tc sc Ar cp b ur Tr ρ V W ar env om tn ze zl zt) (hb : bud (sz p) uc ur (prs Ar b ur).length sc) :
    FFail ar ze (sz p) (mX0_findWheel recC Ac (nI p) (nI lv)) (mX6_wheelFound N cp recR Ar (nI p)) Ac sc Ar cp ∨ FOk (sz p) (mX0_findWheel recC Ac (nI p) (nI lv)) (mX6_wheelFound N cp recR Ar (nI p)) (fun _ => True) Ac uc Tc sc Ar cp b ur Tr ρ V W ar env om tn ze zl zt := by
  have hpn := pc.2.1
  obtain ⟨b1, b2, b3, b4⟩ := hb
  obtain ⟨Ac1, Tc1, Ar1, cp1, Tr1, ρ1, V1, W1, k1, n1, e1, r1, g1, w1, hT1, hR1, hTu, hRu, hnV⟩ := both_var (N := N) h (by omega) (by omega)
  have G1 := Prog_tr (Prog_rfl h) g1
  have pc1 := PTc_off g1.2.2.2.2.1 pc
  have pr1 := PTr_off g1.2.2.2.2.2.1 pr
  obtain ⟨⟨chc1, s1⟩, s2, ⟨chr1, s3⟩, s4, s5, s6, s7, s8⟩ := id g1.1
  have co : mX4_codeOfNode Ac1 (nI uc) = some (Ac1, nI (100 + uc)) := by
    unfold mX4_codeOfNode mX4_codeOfNode_b0
    simp (disch := omega) only [lq2, lq3, lq4, lq5, lq6, lq7, lq8, lq9, lq10, lq11, lq40, lq59, lq60, lq61, lq100, lq500, lq2600, lq5208, lq1000000, ltT, ltF, leT, leF, eqT, eqF, lt0F, le0F, le0T, ge0T, eq0T, eq0F, eqm1F, ten0, m1lt0, eq_self, nI_add, nI_1, sub1, addm1, addm2, subn, cl0, cl1, ncl, ginT, gin0, gin1, ↓reduceIte, if_true, if_false, Nat.add_sub_cancel, obe, ↓gle, true_or, or_true]
  obtain ⟨A4, hA4⟩ : ∃ A4, A4 = g_up Ac1 182 0 (nI (100 + uc)) := ⟨_, rfl⟩
  have o4 : ∀ a x, a ≠ 182 → A4 a x = Ac1 a x := fun a x q => by rw [hA4, up_c q]
  have f4 : mX2_fact A4 (nI p) 4 = some (A4, nI l) := by rw [fact_4 (np := np) (by rw [o4 _ _ (by omega)]; exact pc1.1) hp hpn, o4 _ _ (by omega), pc1.2.2 p hp 4 (by omega), F4]
  have f4' : mX2_fact (g_up Ac1 182 (0 : Int32).toNatClampNeg (nI (100 + uc))) (nI p) 4 = some (A4, nI l) := by rw [cl0, ← hA4]; exact f4
  have p1 : mX6_pa cp1 Ar1 (nI p) 1 = some (Ar1, nI a) := by rw [pa_1 (by omega), pr1 p hp 1 (by omega), F1]
  have p4 : mX6_pa cp1 Ar1 (nI p) 4 = some (Ar1, nI l) := by rw [pa_4 (by omega), pr1 p hp 4 (by omega), F4]
  obtain ⟨Ac2, x1, x2, x3, x4, x5, x6⟩ := nput_ok (A := A4) (l := l) (ar := ar) (R := [100 + uc]) (by rw [o4 _ _ (by omega)]; exact s6.1) (by omega) (by simp) (fun i c hi => by
    cases i with
    | zero =>
      have : 100 + uc = c := by simpa using hi
      rw [hA4, up_s, this]
    | succ i => simp at hi)
  have x1' : mX1_put A4 (nI l) 1 = some Ac2 := by rw [show (1 : Int32) = nI 1 from one_nI]; exact x1
  have oC : ∀ a x, a ≠ 182 → a ≠ 141 + ar → ¬ (a = 139 ∧ x = ar) → ¬ (a = 181 ∧ x = ar) → ¬ (a = 138 ∧ x = 3) → Ac2 a x = Ac1 a x := fun a x q1 q2 q3 q4 q5 => by rw [x6 a x q2 q3 q4 q5, o4 a x q1]
  have oC' : offC ar Ac1 Ac2 := fun a x q => oC a x (by omega) (by omega) (by omega) (by omega) (by omega)
  have oR' : offR (ar + ze) Ar1 (psR Ar1 (ar + ze) (nI l) (nI ur)) := fun a x q => psR_off (by omega) (by omega) (by omega)
  have pc2 := PTc_off oC' pc1
  have pr2 := PTr_off oR' pr1
  have f1 : mX2_fact Ac2 (nI p) 1 = some (Ac2, nI a) := by rw [fact_1 pc2.1 hp hpn, pc2.2.2 p hp 1 (by omega), F1]
  have hbe := s3.2.2.2
  have ub := prog_u g1
  have sp := Sim_push (o := fun _ => 0) g1.1 (by omega) oC x4 hl x2 x3 x5 (t := ur) ⟨by have := w1.2.1; omega, by omega⟩ (Ty_leaf (if_neg (by omega))) (by simp) (fun c hc => by rw [List.mem_singleton] at hc; omega)
    (by
      rw [subE_one]
      unfold em
      rw [if_neg (by omega), if_neg (by omega), show 100 + uc - 100 = uc by omega]
      exact w1.2.2.1.symm)
    (fun c hc _ x hx => by
      rw [List.mem_singleton] at hc
      subst hc
      rw [show 100 + uc - 100 = uc by omega] at hx
      exact w1.2.2.2 x hx)
    (fun c hc h1 h2 => by rw [List.mem_singleton] at hc; omega)
    (fun c hc d hd _ _ _ _ _ => by rw [List.mem_singleton] at hc hd; rw [hc, hd])
  have pe : prs (psR Ar1 (ar + ze) (nI l) (nI ur)) b (ur + 1) = prs Ar1 b (ur + 1) := prs_off fun n _ => psR_off (by omega) (by omega) (by omega)
  obtain ⟨q1, q2, q3, q4, q5, q6, q7, q8, q9, q10, q11, q12⟩ := id G1
  have hze := g1.1.2.2.2.2.2.2.2.1
  have har9 : ar + ze < 60 := by omega
  rcases ra (by omega) pc2 pr2 sp ⟨by omega, by omega, by rw [pe]; omega, by omega⟩ with h1 | ⟨Ac3, uc3, Tc3, sc3, Ar3, cp3, ur3, Tr3, ρ3, V3, W3, k3, n3, rc3, rr3, e3, r3, g3, w3, -⟩
  · refine Or.inl (FFail_in G1 oC' oR' (scp := sc) (by omega) h1 (by omega) (fun A' e => ?_) fun A' cp' k' n' e => ?_)
    · obtain ⟨A'', y1, y2⟩ := ndrop_any A'
      refine ⟨A'', ?_, y2⟩
      unfold mX0_findWheel mX0_findWheel_b0 mX0_findWheel_b87
      simp (disch := omega) only [lq2, lq3, lq4, lq5, lq6, lq7, lq8, lq9, lq10, lq11, lq40, lq59, lq60, lq61, lq100, lq500, lq2600, lq5208, lq1000000, ltT, ltF, leT, leF, eqT, eqF, lt0F, le0F, le0T, ge0T, eq0T, eq0F, eqm1F, ten0, m1lt0, eq_self, nI_add, nI_1, sub1, addm1, addm2, subn, cl0, cl1, ncl, ginT, gin0, gin1, ↓reduceIte, if_true, if_false, Nat.add_sub_cancel, obe, ↓gle, true_or, or_true, ↓(bnd e1), ↓(bnd co), ↓(bnd f4'), ↓(bnd x1'), ↓(bnd f1), ↓(bnd e), ↓(bnd y1)]
    · have hin := inside_k (N := N) s6.2.1 har9 e
      refine ⟨g_up A' 183 9 (A' 183 9 - 1), ?_, fun a x z => by rw [up_get, if_neg z]⟩
      unfold mX6_wheelFound mX6_wheelFound_b0 mX6_wheelFound_b4 mX6_wheelFound_b22 mX6_wheelFound_b39
      simp (disch := omega) only [lq2, lq3, lq4, lq5, lq6, lq7, lq8, lq9, lq10, lq11, lq40, lq59, lq60, lq61, lq100, lq500, lq2600, lq5208, lq1000000, ltT, ltF, leT, leF, eqT, eqF, lt0F, le0F, le0T, ge0T, eq0T, eq0F, eqm1F, ten0, m1lt0, eq_self, nI_add, nI_1, sub1, addm1, addm2, subn, cl0, cl1, ncl, ginT, gin0, gin1, ↓reduceIte, if_true, if_false, Nat.add_sub_cancel, obe, ↓gle, true_or, or_true, ↓(bnd r1), ↓(bnd p1), ↓(bnd p4), ↓(bnd hin), Nat.zero_add]
  · have g3' := Prog_inside oC' oR' (fun m => psR_off (by omega) (by omega) (by omega)) pe (psR_off (by omega) (by omega) (by omega)) (psR_off (by omega) (by omega) (by omega)) g3 (env := env) (om := om) (tn := tn) fun k hk => ⟨at1_n (by omega), at1_n (by omega), at1_n (by omega)⟩
    have G3 := Prog_tr G1 g3'
    have u3 := prog_u g3
    have hd3 : mX1_dropLast Ac3 = some (g_up Ac3 138 3 (nI ar)) := ndrop_ok g3.1.2.2.2.2.2.1.1 (by omega)
    have hin := inside_k (N := N) s6.2.1 har9 r3
    have h9 : Ar3 183 9 - 1 = nI (ar + ze) := by rw [g3.1.2.2.2.2.2.1.2.1, sub1 (by omega), show ar + 1 + ze - 1 = ar + ze by omega]
    rw [h9] at hin
    have w1' := Row_prog g1.1.low g1.1.2.2.2.2.1 g3' w1
    have rb3 : rc3 ≤ 2600 ∧ rr3 ≤ 8000 := ⟨by have := w3.1; omega, by have := w3.2.1; omega⟩
    obtain ⟨t1, t2, t3, t4, t5, t6, t7, t8, t9, t10, t11, t12⟩ := id G3
    obtain ⟨Ac4, Tc4, Ar4, cp4, Tr4, W4, k4, n4, e4, r4, g4, w4, -⟩ := both_pair (N := N) (c := 2) g3'.1 (by omega) (by omega) (Or.inl rfl) w1' w3
    have G4 := Prog_tr G3 g4
    have e4' : mX4_make (g_up Ac3 138 3 (nI ar)) 2 (nI uc) (nI rc3) = some (Ac4, nI uc3) := by rw [lq2]; exact e4
    have r4' : mX6_node N cp3 (g_up Ar3 183 9 (nI (ar + ze))) 2 (nI ur) (nI rr3) = some (Ar4, (cp4, k4, n4), nI ur3) := by rw [lq2]; exact r4
    refine Or.inr (FOk_tr G4 w4 ?_ ?_ (by omega) (by omega) (by omega) (by omega) trivial)
    · unfold mX0_findWheel mX0_findWheel_b0 mX0_findWheel_b87
      simp (disch := omega) only [lq2, lq3, lq4, lq5, lq6, lq7, lq8, lq9, lq10, lq11, lq40, lq59, lq60, lq61, lq100, lq500, lq2600, lq5208, lq1000000, ltT, ltF, leT, leF, eqT, eqF, lt0F, le0F, le0T, ge0T, eq0T, eq0F, eqm1F, ten0, m1lt0, eq_self, nI_add, nI_1, sub1, addm1, addm2, subn, cl0, cl1, ncl, ginT, gin0, gin1, ↓reduceIte, if_true, if_false, Nat.add_sub_cancel, obe, ↓gle, true_or, or_true, ↓(bnd e1), ↓(bnd co), ↓(bnd f4'), ↓(bnd x1'), ↓(bnd f1), ↓(bnd e3), ↓(bnd hd3), ↓(bnd e4')]
    · unfold mX6_wheelFound mX6_wheelFound_b0 mX6_wheelFound_b4 mX6_wheelFound_b22 mX6_wheelFound_b39
      simp (disch := omega) only [lq2, lq3, lq4, lq5, lq6, lq7, lq8, lq9, lq10, lq11, lq40, lq59, lq60, lq61, lq100, lq500, lq2600, lq5208, lq1000000, ltT, ltF, leT, leF, eqT, eqF, lt0F, le0F, le0T, ge0T, eq0T, eq0F, eqm1F, ten0, m1lt0, eq_self, nI_add, nI_1, sub1, addm1, addm2, subn, cl0, cl1, ncl, ginT, gin0, gin1, ↓reduceIte, if_true, if_false, Nat.add_sub_cancel, obe, ↓gle, true_or, or_true, ↓(bnd r1), ↓(bnd p1), ↓(bnd p4), ↓(bnd hin), ↓(bnd r4'), Nat.zero_add]
end CT
