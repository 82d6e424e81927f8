/-! TELLINGS, AND FINDING AS A WHOLE -/
section CS
variable {Ac : gM} {uc : Nat} {Tc : Nat → Rw} {sc : Nat} {Ar : gM} {cp ur : Nat} {Tr : Nat → Rw} {ρ : Nat → Nat} {V W : Nat → Prop} {Ac1 : gM} {uc1 : Nat} {Tc1 : Nat → Rw} {sc1 : Nat} {Ar1 : gM} {cp1 ur1 : Nat} {Tr1 : Nat → Rw} {ρ1 : Nat → Nat} {V1 W1 : Nat → Prop} {Ac2 : gM} {uc2 : Nat} {Tc2 : Nat → Rw} {sc2 : Nat} {Ar2 : gM} {cp2 ur2 : Nat} {Tr2 : Nat → Rw} {ρ2 : Nat → Nat} {V2 W2 : Nat → Prop} {b ar : Nat} {env : Nat → Rw} {om : Nat → Nat → Nat} {tn : Nat → Nat} {ze zl zt : Nat}
/-- the fault at a part, told on both sides -/
theorem FFail_at0 {k n du dr dp ds s f p : Nat} {resC : Option (gM × Int32)} {resR : Option (gM × (Nat × Nat × Nat) × Int32)} {Ac2 Ar2 : gM} {sc2 : Nat} (h : Prog Ac uc Tc sc Ar cp b ur Tr ρ V W ar env om tn ze zl zt Ac1 uc1 Tc1 sc1 Ar1 cp1 ur1 Tr1 ρ1 V1 W1 k n du dr dp ds) (oC : offC ar Ac1 Ac2) (st : stI Ac2 sc2) (hsc : sc2 ≤ sc1) (oR : offR (ar + ze) Ar1 Ar2) (hO : rO Ar2 cp1) (hf : 1 ≤ f ∧ f ≤ 4) (hp : p ≤ 40) (hs : ds ≤ 6000 * s) (f12 : Ar2 183 12 = nI f) (f13 : Ar2 183 13 = nI p)
    (e1 : resC = some (g_up (g_up Ac2 128 3 (nI f)) 128 4 (nI p), -1)) (e2 : resR = some (Ar2, (cp1, k, n), -1)) : FFail ar ze s resC resR Ac sc Ar cp := by
  obtain ⟨a1, a2, a3, a4, a5, a6, a7, a8, a9, a10, a11, a12⟩ := h
  have g : ∀ a x, a ≠ 128 → g_up (g_up Ac2 128 3 (nI f)) 128 4 (nI p) a x = Ac2 a x := fun a x q => by rw [up_c q, up_c q]
  exact ⟨_, sc2, Ar2, cp1, k, n, f, p, e1, e2, a4, ⟨by rw [up_p (by omega), up_s], up_s, f12, f13⟩, ⟨hf.1, hf.2, hp⟩, stI_off st (g 129 10 (by omega)) (funext fun x => g 133 x (by omega)), by omega, fun a x q => by rw [g a x (by omega), oC a x q, a5 a x q], offR_tr a6 oR, hO⟩
end CS
section CT
variable {F : Nat → Nat → Int32} {sz : Nat → Nat} {np N : Nat} {recC : gM → Int32 → Int32 → Option (gM × Int32)} {recR : Nat → gM → Int32 → Option (gM × (Nat × Nat × Nat) × Int32)} {lv p a d e l : Nat}
variable {Ac : gM} {uc : Nat} {Tc : Nat → Rw} {sc : Nat} {Ar : gM} {cp ur : Nat} {Tr : Nat → Rw} {ρ : Nat → Nat} {V W : Nat → Prop} {b ar : Nat} {env : Nat → Rw} {om : Nat → Nat → Nat} {tn : Nat → Nat} {ze zl zt : Nat}
theorem c_tell (hp : p < np) (ha : a < p) (hd : d < p) (F1 : F p 1 = nI a) (F2 : F p 2 = nI d) (F4 : F p 4 = nI l) (hl : l ≤ 9) (hs : sz p = 1 + sz a + sz d) (ra : RP F sz np zl recC recR lv a) (rd : RP F sz np zl recC recR lv d) (har : ar + p ≤ 39) (pc : PTc Ac np F) (pr : PTr Ar np F) (h : Sim Ac uc Tc sc Ar cp b ur Tr ρ V W ar env om tn ze zl zt) (hb : bud (sz p) uc ur (prs Ar b ur).length sc) :
    FFail ar ze (sz p) (mX0_findTelling recC Ac (nI p) (nI lv)) (mX6_tellingFound N cp recR Ar (nI p)) Ac sc Ar cp ∨ FOk (sz p) (mX0_findTelling recC Ac (nI p) (nI lv)) (mX6_tellingFound N cp recR Ar (nI p)) (fun _ => True) Ac uc Tc sc Ar cp b ur Tr ρ V W ar env om tn ze zl zt := by
  have hpn := pc.2.1
  obtain ⟨b1, b2, b3, b4⟩ := hb
  have f1 : mX2_fact Ac (nI p) 1 = some (Ac, nI a) := by rw [fact_1 pc.1 hp hpn, pc.2.2 p hp 1 (by omega), F1]
  have p1 : mX6_pa cp Ar (nI p) 1 = some (Ar, nI a) := by rw [pa_1 (by omega), pr p hp 1 (by omega), F1]
  rcases ra (by omega) pc pr (Sim_env h) ⟨by omega, by omega, by omega, by omega⟩ with h1 | ⟨Ac1, uc1, Tc1, sc1, Ar1, cp1, ur1, Tr1, ρ1, V1, W1, k1, n1, rc1, rr1, e1, r1, g1, w1, hlen⟩
  · refine Or.inl (FFail_tr (Prog_rfl h) h1 (by omega) (fun A' e => ?_) fun A' cp' k' n' e => ?_)
    · unfold mX0_findTelling mX0_findTelling_b0
      simp (disch := omega) only [lq2, lq3, lq4, lq5, lq6, lq7, lq8, lq9, lq10, lq11, lq40, lq59, lq60, lq61, lq100, lq500, lq2600, lq5208, lq1000000, ltT, ltF, leT, leF, eqT, eqF, lt0F, le0F, le0T, ge0T, eq0T, eq0F, eqm1F, ten0, m1lt0, eq_self, nI_add, nI_1, sub1, addm1, addm2, subn, cl0, cl1, ncl, ginT, gin0, gin1, ↓reduceIte, if_true, if_false, Nat.add_sub_cancel, obe, ↓gle, true_or, or_true, ↓(bnd f1), ↓(bnd e)]
    · unfold mX6_tellingFound mX6_tellingFound_b0 mX6_tellingFound_b10
      simp (disch := omega) only [lq2, lq3, lq4, lq5, lq6, lq7, lq8, lq9, lq10, lq11, lq40, lq59, lq60, lq61, lq100, lq500, lq2600, lq5208, lq1000000, ltT, ltF, leT, leF, eqT, eqF, lt0F, le0F, le0T, ge0T, eq0T, eq0F, eqm1F, ten0, m1lt0, eq_self, nI_add, nI_1, sub1, addm1, addm2, subn, cl0, cl1, ncl, ginT, gin0, gin1, ↓reduceIte, if_true, if_false, Nat.add_sub_cancel, obe, ↓gle, true_or, or_true, ↓(bnd p1), ↓(bnd e)]
  have rb1 : rc1 ≤ 2600 ∧ rr1 ≤ 8000 := by
    have u1 := prog_u g1
    exact ⟨by have := w1.1; omega, by have := w1.2.1; omega⟩
  obtain ⟨g11, g12, g13, g14, g15, g16, g17, g18, g19, g110, g111, g112⟩ := id g1
  obtain ⟨Acm, Acw, Aro, V2, W2, R, o, x1, x2, x3, g2, x4, x5, x6, x7, x8, x9, x10, x11⟩ := told_drop h g1 w1 hlen (by omega) (by omega)
  have G2 := Prog_tr (Prog_rfl h) g2
  have u2 := prog_u g2
  have pc2 := PTc_off g2.2.2.2.2.1 pc
  have pr2 := PTr_off g2.2.2.2.2.2.1 pr
  obtain ⟨⟨chc2, s1⟩, s2, ⟨chr2, s3⟩, s4, s5, s6, s7, s8⟩ := id g2.1
  have f4 : mX2_fact Acw (nI p) 4 = some (Acw, nI l) := by rw [fact_4 pc2.1 hp hpn, pc2.2.2 p hp 4 (by omega), F4]
  have p2 : mX6_pa cp1 Aro (nI p) 2 = some (Aro, nI d) := by rw [pa_2 (by omega), pr2 p hp 2 (by omega), F2]
  have p4 : mX6_pa cp1 Aro (nI p) 4 = some (Aro, nI l) := by rw [pa_4 (by omega), pr2 p hp 4 (by omega), F4]
  obtain ⟨Ac3, y1, y2, y3, y4, y5, y6⟩ := nput_ok (A := Acw) (l := l) (ar := ar) s6.1 (by omega) x6 x4
  have oC : ∀ a x, a ≠ 182 → a ≠ 141 + ar → ¬ (a = 139 ∧ x = ar) → ¬ (a = 181 ∧ x = ar) → ¬ (a = 138 ∧ x = 3) → Ac3 a x = Acw a x := fun a x q1 q2 q3 q4 q5 => y6 a x q2 q3 q4 q5
  have oC' : offC ar Acw Ac3 := fun a x q => oC a x (by omega) (by omega) (by omega) (by omega) (by omega)
  have oR' : offR (ar + ze) Aro (psR Aro (ar + ze) (nI l) (nI rr1)) := fun a x q => psR_off (by omega) (by omega) (by omega)
  have pc3 := PTc_off oC' pc2
  have pr3 := PTr_off oR' pr2
  have f2 : mX2_fact Ac3 (nI p) 2 = some (Ac3, nI d) := by rw [fact_2 pc3.1 hp hpn, pc3.2.2 p hp 2 (by omega), F2]
  have sp := Sim_push g2.1 (by omega) oC y4 hl y2 y3 y5 (t := rr1) w1.2.1 x5 x6 x7 x8 x9 x10 x11
  have pe : prs (psR Aro (ar + ze) (nI l) (nI rr1)) b ur1 = prs Aro b ur1 := prs_off fun n _ => psR_off (by omega) (by omega) (by omega)
  obtain ⟨q1, q2, q3, q4, q5, q6, q7, q8, q9, q10, q11, q12⟩ := id G2
  have hze := g1.1.2.2.2.2.2.2.2.1
  have har9 : ar + ze < 60 := by omega
  rcases rd (by omega) pc3 pr3 sp ⟨by omega, by omega, by rw [pe]; omega, by omega⟩ with h1 | ⟨Ac4, uc4, Tc4, sc4, Ar4, cp4, ur4, Tr4, ρ4, V4, W4, k4, n4, rc4, rr4, e4, r4, g4, w4, -⟩
  · refine Or.inl (FFail_in G2 oC' oR' (scp := sc1 + 1) (by omega) h1 (by omega) (fun A' e => ?_) fun A' cp' k' n' e => ?_)
    · obtain ⟨A'', z1, z2⟩ := ndrop_any A'
      refine ⟨A'', ?_, z2⟩
      unfold mX0_findTelling mX0_findTelling_b0
      simp (disch := omega) only [lq2, lq3, lq4, lq5, lq6, lq7, lq8, lq9, lq10, lq11, lq40, lq59, lq60, lq61, lq100, lq500, lq2600, lq5208, lq1000000, ltT, ltF, leT, leF, eqT, eqF, lt0F, le0F, le0T, ge0T, eq0T, eq0F, eqm1F, ten0, m1lt0, eq_self, nI_add, nI_1, sub1, addm1, addm2, subn, cl0, cl1, ncl, ginT, gin0, gin1, ↓reduceIte, if_true, if_false, Nat.add_sub_cancel, obe, ↓gle, true_or, or_true, ↓(bnd f1), ↓(bnd e1), ↓(bnd x1), ↓(bnd x2), ↓(bnd f4), ↓(bnd y1), ↓(bnd f2), ↓(bnd e), ↓(bnd z1)]
    · have hin := inside_k (N := N) s6.2.1 har9 e
      refine ⟨g_up A' 183 9 (A' 183 9 - 1), ?_, fun a x z => by rw [up_get, if_neg z]⟩
      unfold mX6_tellingFound mX6_tellingFound_b0 mX6_tellingFound_b10 mX6_tellingFound_b40
      simp (disch := omega) only [lq2, lq3, lq4, lq5, lq6, lq7, lq8, lq9, lq10, lq11, lq40, lq59, lq60, lq61, lq100, lq500, lq2600, lq5208, lq1000000, ltT, ltF, leT, leF, eqT, eqF, lt0F, le0F, le0T, ge0T, eq0T, eq0F, eqm1F, ten0, m1lt0, eq_self, nI_add, nI_1, sub1, addm1, addm2, subn, cl0, cl1, ncl, ginT, gin0, gin1, ↓reduceIte, if_true, if_false, Nat.add_sub_cancel, obe, ↓gle, true_or, or_true, ↓(bnd p1), ↓(bnd r1), ↓(bnd x3), ↓(bnd p2), ↓(bnd p4), ↓(bnd hin), Nat.zero_add]
  · have g4' := Prog_inside oC' oR' (fun m => psR_off (by omega) (by omega) (by omega)) pe (psR_off (by omega) (by omega) (by omega)) (psR_off (by omega) (by omega) (by omega)) g4 (env := env) (om := om) (tn := tn) fun k hk => ⟨at1_n (by omega), at1_n (by omega), at1_n (by omega)⟩
    have G4 := Prog_tr G2 g4'
    have hd4 : mX1_dropLast Ac4 = some (g_up Ac4 138 3 (nI ar)) := ndrop_ok g4.1.2.2.2.2.2.1.1 (by omega)
    have hin := inside_k (N := N) s6.2.1 har9 r4
    have h9 : Ar4 183 9 - 1 = nI (ar + ze) := by rw [g4.1.2.2.2.2.2.1.2.1, sub1 (by omega), show ar + 1 + ze - 1 = ar + ze by omega]
    rw [h9] at hin
    refine Or.inr (FOk_tr G4 w4 ?_ ?_ (by omega) (by omega) (by omega) (by omega) trivial)
    · unfold mX0_findTelling mX0_findTelling_b0
      simp (disch := omega) only [lq2, lq3, lq4, lq5, lq6, lq7, lq8, lq9, lq10, lq11, lq40, lq59, lq60, lq61, lq100, lq500, lq2600, lq5208, lq1000000, ltT, ltF, leT, leF, eqT, eqF, lt0F, le0F, le0T, ge0T, eq0T, eq0F, eqm1F, ten0, m1lt0, eq_self, nI_add, nI_1, sub1, addm1, addm2, subn, cl0, cl1, ncl, ginT, gin0, gin1, ↓reduceIte, if_true, if_false, Nat.add_sub_cancel, obe, ↓gle, true_or, or_true, ↓(bnd f1), ↓(bnd e1), ↓(bnd x1), ↓(bnd x2), ↓(bnd f4), ↓(bnd y1), ↓(bnd f2), ↓(bnd e4), ↓(bnd hd4)]
    · unfold mX6_tellingFound mX6_tellingFound_b0 mX6_tellingFound_b10 mX6_tellingFound_b40
      simp (disch := omega) only [lq2, lq3, lq4, lq5, lq6, lq7, lq8, lq9, lq10, lq11, lq40, lq59, lq60, lq61, lq100, lq500, lq2600, lq5208, lq1000000, ltT, ltF, leT, leF, eqT, eqF, lt0F, le0F, le0T, ge0T, eq0T, eq0F, eqm1F, ten0, m1lt0, eq_self, nI_add, nI_1, sub1, addm1, addm2, subn, cl0, cl1, ncl, ginT, gin0, gin1, ↓reduceIte, if_true, if_false, Nat.add_sub_cancel, obe, ↓gle, true_or, or_true, ↓(bnd p1), ↓(bnd r1), ↓(bnd x3), ↓(bnd p2), ↓(bnd p4), ↓(bnd hin), Nat.zero_add]
/-- a plain part -/
theorem c_leaf {s : Nat} (hs2 : s < 2) (hs : sz p = 1) (h : Sim Ac uc Tc sc Ar cp b ur Tr ρ V W ar env om tn ze zl zt) (hb : bud (sz p) uc ur (prs Ar b ur).length sc) : FOk (sz p) (some (Ac, nI s)) (mX6_node N cp Ar (nI s) (-1) (-1)) (fun _ => True) Ac uc Tc sc Ar cp b ur Tr ρ V W ar env om tn ze zl zt := by
  obtain ⟨b1, b2, b3, b4⟩ := hb
  obtain ⟨Ar3, cp3, Tr3, W3, k3, n3, r3, g3, w3, hT1⟩ := both_leaf (N := N) h (by omega) hs2
  exact ⟨Ac, uc, Tc, sc, Ar3, cp3, ur + 1, Tr3, ρ, V, W3, k3, n3, s, ur, rfl, r3, Prog_le g3 (by omega) (by omega) (by omega) (by omega), w3, trivial⟩
/-- the length is asked behind each part -/
theorem finish {s : Nat} {rC : Option (gM × Int32)} {rR resR : Option (gM × (Nat × Nat × Nat) × Int32)} (h : Sim Ac uc Tc sc Ar cp b ur Tr ρ V W ar env om tn ze zl zt) (hp : p ≤ 40) (hs : 1 ≤ s) (hb : bud s uc ur (prs Ar b ur).length sc) (hfo : FFail ar ze s rC rR Ac sc Ar cp ∨ FOk s rC rR (fun _ => True) Ac uc Tc sc Ar cp b ur Tr ρ V W ar env om tn ze zl zt)
    (hR : ∀ A' cp' k' n' r, rR = some (A', (cp', k', n'), r) → resR = mX6_found_b5 N cp' (0 + k') (0 + n') recR A' (nI p) r) :
    FFail ar ze s (rC.bind fun q => mX0_find_b157 recC q.1 (nI p) q.2) resR Ac sc Ar cp ∨ FOk s (rC.bind fun q => mX0_find_b157 recC q.1 (nI p) q.2) resR (fun r => r.length ≤ 60) Ac uc Tc sc Ar cp b ur Tr ρ V W ar env om tn ze zl zt := by
  obtain ⟨b1, b2, b3, b4⟩ := hb
  rcases hfo with hf | ⟨Ac1, uc1, Tc1, sc1, Ar1, cp1, ur1, Tr1, ρ1, V1, W1, k1, n1, rc1, rr1, e1, r1, g1, w1, -⟩
  · refine Or.inl (FFail_tr (Prog_rfl h) hf (by omega) (fun A' e => ?_) fun A' cp' k' n' e => ?_)
    · rw [bnd e]
      unfold mX0_find_b157 mX0_find_b179
      simp (disch := omega) only [lq2, lq3, lq4, lq5, lq6, lq7, lq8, lq9, lq10, lq11, lq40, lq59, lq60, lq61, lq100, lq500, lq2600, lq5208, lq1000000, ltT, ltF, leT, leF, eqT, eqF, lt0F, le0F, le0T, ge0T, eq0T, eq0F, eqm1F, ten0, m1lt0, eq_self, nI_add, nI_1, sub1, addm1, addm2, subn, cl0, cl1, ncl, ginT, gin0, gin1, ↓reduceIte, if_true, if_false, Nat.add_sub_cancel, obe, ↓gle, true_or, or_true]
    · rw [hR _ _ _ _ _ e]
      unfold mX6_found_b5 mX6_found_b30 mX6_found_b31
      simp (disch := omega) only [lq2, lq3, lq4, lq5, lq6, lq7, lq8, lq9, lq10, lq11, lq40, lq59, lq60, lq61, lq100, lq500, lq2600, lq5208, lq1000000, ltT, ltF, leT, leF, eqT, eqF, lt0F, le0F, le0T, ge0T, eq0T, eq0F, eqm1F, ten0, m1lt0, eq_self, nI_add, nI_1, sub1, addm1, addm2, subn, cl0, cl1, ncl, ginT, gin0, gin1, ↓reduceIte, if_true, if_false, Nat.add_sub_cancel, obe, ↓gle, true_or, or_true]
  · have u1 := prog_u g1
    obtain ⟨⟨chc, t1⟩, t2, ⟨chr, t3⟩, t4, t5, t6, t7, t8⟩ := id g1.1
    obtain ⟨q1, q2, q3, q4, q5, q6, q7, q8, q9, q10, q11, q12⟩ := id g1
    have rb1 : rc1 ≤ 2600 ∧ rr1 ≤ 8000 := ⟨by have := w1.1; omega, by have := w1.2.1; omega⟩
    obtain ⟨Acw, y1, y2, y3⟩ := write_ok t1 w1.1
    have hc := codes_ok t3.1 t3.2.1 (fun n hn => hn.2) 1250 rr1 0 w1.2.1 abv_0 (by omega)
    have hlr : (Tr1 rr1).length = (Tc1 rc1).length := by rw [← w1.2.2.1, rn_len]
    rw [hlr] at hc
    have oCw : offC ar Ac1 Acw := fun a x q => y2 a x (by omega) (by omega) (by omega) (by omega)
    have stw : stI Acw sc1 := stI_off t2 (y2 129 10 (by omega) (by omega) (by omega) (by omega)) (funext fun x => y2 133 x (by omega) (by omega) (by omega) (by omega))
    by_cases hL : (Tc1 rc1).length ≤ 60
    · rw [if_pos hL] at y1
      have e61 : min 61 (Tc1 rc1).length = (Tc1 rc1).length := by omega
      rw [e61] at hc
      have sm : Sim Acw uc1 Tc1 sc1 Ar1 cp1 b ur1 Tr1 ρ1 V1 W1 ar env om tn ze zl zt := by
        refine ⟨⟨chc, sT_same (offW_S y2) t1⟩, stw, ⟨chr, t3⟩, t4, t5, ⟨by rw [y2 138 3 (by omega) (by omega) (by omega) (by omega)]; exact t6.1, t6.2⟩, fun k hk => ?_, t8⟩
        have hk40 := t6.2.2
        obtain ⟨⟨l', e0, e1, e1'⟩, e2, e3, e4⟩ := t7 k hk
        exact ⟨⟨l', e0, by rw [y2 139 k (by omega) (by omega) (by omega) (by omega)]; exact e1, e1'⟩, by rw [y2 181 k (by omega) (by omega) (by omega) (by omega)]; exact e2, fun i c hi => by rw [y2 (141 + k) i (by omega) (by omega) (by omega) (by omega)]; exact e3 i c hi, e4⟩
      refine Or.inr ⟨Acw, uc1, Tc1, sc1, Ar1, cp1, ur1, Tr1, ρ1, V1, W1, 0 + k1, 0 + n1, rc1, rr1, ?_, ?_, ⟨sm, q2, q3, by rw [Nat.zero_add, Nat.zero_add]; exact q4, offC_tr q5 oCw, q6, q7, q8, q9, q10, q11, q12⟩, w1, hL⟩
      · have it : mX0_isTooLong Ac1 (nI rc1) = some (Acw, 0) := by
          unfold mX0_isTooLong mX0_isTooLong_b0 mX0_isTooLong_b22
          simp (disch := omega) only [lq2, lq3, lq4, lq5, lq6, lq7, lq8, lq9, lq10, lq11, lq40, lq59, lq60, lq61, lq100, lq500, lq2600, lq5208, lq1000000, ltT, ltF, leT, leF, eqT, eqF, lt0F, le0F, le0T, ge0T, eq0T, eq0F, eqm1F, ten0, m1lt0, eq_self, nI_add, nI_1, sub1, addm1, addm2, subn, cl0, cl1, ncl, ginT, gin0, gin1, ↓reduceIte, if_true, if_false, Nat.add_sub_cancel, obe, ↓gle, true_or, or_true, ↓(bnd y1)]
        rw [bnd e1]
        unfold mX0_find_b157 mX0_find_b179
        simp (disch := omega) only [lq2, lq3, lq4, lq5, lq6, lq7, lq8, lq9, lq10, lq11, lq40, lq59, lq60, lq61, lq100, lq500, lq2600, lq5208, lq1000000, ltT, ltF, leT, leF, eqT, eqF, lt0F, le0F, le0T, ge0T, eq0T, eq0F, eqm1F, ten0, m1lt0, eq_self, nI_add, nI_1, sub1, addm1, addm2, subn, cl0, cl1, ncl, ginT, gin0, gin1, ↓reduceIte, if_true, if_false, Nat.add_sub_cancel, obe, ↓gle, true_or, or_true, ↓(bnd it)]
      · rw [hR _ _ _ _ _ r1]
        unfold mX6_found_b5 mX6_found_b30 mX6_found_b31
        simp (disch := omega) only [lq2, lq3, lq4, lq5, lq6, lq7, lq8, lq9, lq10, lq11, lq40, lq59, lq60, lq61, lq100, lq500, lq2600, lq5208, lq1000000, ltT, ltF, leT, leF, eqT, eqF, lt0F, le0F, le0T, ge0T, eq0T, eq0F, eqm1F, ten0, m1lt0, eq_self, nI_add, nI_1, sub1, addm1, addm2, subn, cl0, cl1, ncl, ginT, gin0, gin1, ↓reduceIte, if_true, if_false, Nat.add_sub_cancel, obe, ↓gle, true_or, or_true, ↓(bnd hc)]
    · rw [if_neg hL] at y1
      have e61 : min 61 (Tc1 rc1).length = 61 := by omega
      rw [e61] at hc
      have it : mX0_isTooLong Ac1 (nI rc1) = some (Acw, 1) := by
        unfold mX0_isTooLong mX0_isTooLong_b0 mX0_isTooLong_b22
        simp (disch := omega) only [lq2, lq3, lq4, lq5, lq6, lq7, lq8, lq9, lq10, lq11, lq40, lq59, lq60, lq61, lq100, lq500, lq2600, lq5208, lq1000000, ltT, ltF, leT, leF, eqT, eqF, lt0F, le0F, le0T, ge0T, eq0T, eq0F, eqm1F, ten0, m1lt0, eq_self, nI_add, nI_1, sub1, addm1, addm2, subn, cl0, cl1, ncl, ginT, gin0, gin1, ↓reduceIte, if_true, if_false, Nat.add_sub_cancel, obe, ↓gle, true_or, or_true, ↓(bnd y1)]
      refine Or.inl (FFail_at0 (f := 4) (p := p) (Prog_tr (Prog_rfl h) g1) oCw stw (Nat.le_refl _) (Ar2 := g_up (g_up Ar1 183 12 (nI 4)) 183 13 (nI p)) (fun a x q => by rw [up_get, if_neg (by omega), up_get, if_neg (by omega)]) (fun i hi => by rw [up_c (by omega), up_c (by omega)]; exact rO_of g1.1 i hi) (by omega) hp (by omega) (by rw [up_p (by omega), up_s]) up_s ?_ ?_)
      · rw [bnd e1]
        unfold mX0_find_b157
        simp (disch := omega) only [lq2, lq3, lq4, lq5, lq6, lq7, lq8, lq9, lq10, lq11, lq40, lq59, lq60, lq61, lq100, lq500, lq2600, lq5208, lq1000000, ltT, ltF, leT, leF, eqT, eqF, lt0F, le0F, le0T, ge0T, eq0T, eq0F, eqm1F, ten0, m1lt0, eq_self, nI_add, nI_1, sub1, addm1, addm2, subn, cl0, cl1, ncl, ginT, gin0, gin1, ↓reduceIte, if_true, if_false, Nat.add_sub_cancel, obe, ↓gle, true_or, or_true, ↓(bnd it), cfail_k]
      · rw [hR _ _ _ _ _ r1]
        unfold mX6_found_b5 mX6_found_b31
        simp (disch := omega) only [lq2, lq3, lq4, lq5, lq6, lq7, lq8, lq9, lq10, lq11, lq40, lq59, lq60, lq61, lq100, lq500, lq2600, lq5208, lq1000000, ltT, ltF, leT, leF, eqT, eqF, lt0F, le0F, le0T, ge0T, eq0T, eq0F, eqm1F, ten0, m1lt0, eq_self, nI_add, nI_1, sub1, addm1, addm2, subn, cl0, cl1, ncl, ginT, gin0, gin1, ↓reduceIte, if_true, if_false, Nat.add_sub_cancel, obe, ↓gle, true_or, or_true, ↓(bnd hc), rfail_k]
end CT
theorem eq1F {a : Nat} (h : a ≠ 1) (ha : a ≤ 2000000) : (nI a = 1) = False := by rw [one_nI]; exact eqF h ha (by omega)
theorem eq1T {a : Nat} (h : a = 1) : (nI a = 1) = True := by rw [one_nI]; exact eqT h
/-- the sorts of parts -/
def prt (F : Nat → Nat → Int32) (sz : Nat → Nat) (p : Nat) : Prop :=
  (∃ s, s < 2 ∧ F p 0 = nI s ∧ sz p = 1) ∨ (F p 0 = nI 2 ∧ ∃ l, l ≤ 9 ∧ F p 4 = nI l ∧ sz p = 1) ∨
  (F p 0 = nI 3 ∧ ∃ a l, a < p ∧ l ≤ 9 ∧ F p 1 = nI a ∧ F p 4 = nI l ∧ sz p = 1 + sz a) ∨
  (F p 0 = nI 4 ∧ ∃ a d, a < p ∧ d < p ∧ F p 1 = nI a ∧ F p 2 = nI d ∧ sz p = 1 + sz a + sz d) ∨
  (F p 0 = nI 5 ∧ ∃ a d l, a < p ∧ d < p ∧ l ≤ 9 ∧ F p 1 = nI a ∧ F p 2 = nI d ∧ F p 4 = nI l ∧ sz p = 1 + sz a + sz d) ∨
  (F p 0 = nI 6 ∧ ∃ a d, a < p ∧ d < p ∧ F p 1 = nI a ∧ F p 2 = nI d ∧ sz p = 1 + sz a + sz d) ∨
  (F p 0 = nI 7 ∧ ∃ a e, a < p ∧ e ≤ 1 ∧ F p 1 = nI a ∧ F p 4 = nI e ∧ sz p = 1 + sz a) ∨
  (F p 0 = nI 8 ∧ ∃ a d e, a < p ∧ d < p ∧ e < p ∧ F p 1 = nI a ∧ F p 2 = nI d ∧ F p 3 = nI e ∧ sz p = 1 + sz a + sz d + sz e)
section FD
variable {F : Nat → Nat → Int32} {sz : Nat → Nat} {np N : Nat}
variable {Ac : gM} {uc : Nat} {Tc : Nat → Rw} {sc : Nat} {Ar : gM} {cp ur : Nat} {Tr : Nat → Rw} {ρ : Nat → Nat} {V W : Nat → Prop} {b ar : Nat} {env : Nat → Rw} {om : Nat → Nat → Nat} {tn : Nat → Nat} {ze zl zt : Nat}
theorem find_ok (hprt : ∀ p, p < np → prt F sz p) (hnl : ∀ p, p < np → F p 0 = nI 2 → F p 4 ≠ nI zl) : ∀ (p : Nat) (fc fr lv : Nat) {Ac : gM} {uc : Nat} {Tc : Nat → Rw} {sc : Nat} {Ar : gM} {cp ur : Nat} {Tr : Nat → Rw} {ρ : Nat → Nat} {V W : Nat → Prop} {b ar : Nat} {env : Nat → Rw} {om : Nat → Nat → Nat} {tn : Nat → Nat} {ze zt : Nat}, p < np → p < fc → p < fr → lv + p ≤ 39 → ar + p ≤ 39 → PTc Ac np F → PTr Ar np F → Sim Ac uc Tc sc Ar cp b ur Tr ρ V W ar env om tn ze zl zt → bud (sz p) uc ur (prs Ar b ur).length sc →
    FFail ar ze (sz p) (mX0_find fc Ac (nI p) (nI lv)) (mX6_found N fr cp Ar (nI p)) Ac sc Ar cp ∨ FOk (sz p) (mX0_find fc Ac (nI p) (nI lv)) (mX6_found N fr cp Ar (nI p)) (fun r => r.length ≤ 60) Ac uc Tc sc Ar cp b ur Tr ρ V W ar env om tn ze zl zt := by
  intro p
  induction p using Nat.strongRecOn with
  | _ p ih =>
  intro fc fr lv Ac uc Tc sc Ar cp ur Tr ρ V W b ar env om tn ze zt hp hfc hfr hlv har pc pr h hb
  cases fc with
  | zero => omega
  | succ fc =>
  cases fr with
  | zero => omega
  | succ fr =>
  have hpn := pc.2.1
  have rp : ∀ a, a < p → RP F sz np zl (mX0_find fc) (mX6_found N fr) lv a := by
    intro a ha Ac uc Tc sc Ar cp ur Tr ρ V W b ar env om tn ze zt hh pc pr h hb
    rw [nI_1]
    exact ih a ha fc fr (lv + 1) (by omega) (by omega) (by omega) (by omega) hh pc pr h hb
  have f0 : mX2_fact Ac (nI p) 0 = some (Ac, F p 0) := by rw [fact_0 pc.1 hp hpn, pc.2.2 p hp 0 (by omega)]
  have p0 : mX6_pa cp Ar (nI p) 0 = some (Ar, F p 0) := by rw [pa_0 (by omega), pr p hp 0 (by omega)]
  show FFail ar ze (sz p) (mX0_find_b0 (mX0_find fc) Ac (nI p) (nI lv)) (mX6_found_b0 N cp 0 0 (mX6_found N fr) Ar (nI p)) Ac sc Ar cp ∨ FOk (sz p) (mX0_find_b0 (mX0_find fc) Ac (nI p) (nI lv)) (mX6_found_b0 N cp 0 0 (mX6_found N fr) Ar (nI p)) (fun r => r.length ≤ 60) Ac uc Tc sc Ar cp b ur Tr ρ V W ar env om tn ze zl zt
  have h1 : 1 ≤ sz p := by
    rcases hprt p hp with ⟨s, q1, q2, q3⟩ | ⟨q, l, q1, q2, q3⟩ | ⟨q, a, l, q1, q2, q3, q4, q5⟩ | ⟨q, a, d, q1, q2, q3, q4, q5⟩ | ⟨q, a, d, l, q1, q2, q3, q4, q5, q6, q7⟩ | ⟨q, a, d, q1, q2, q3, q4, q5⟩ | ⟨q, a, e, q1, q2, q3, q4, q5⟩ | ⟨q, a, d, e, q1, q2, q3, q4, q5, q6, q7⟩ <;> omega
  rcases hprt p hp with ⟨s, q1, q2, q3⟩ | ⟨q, l, q1, q2, q3⟩ | ⟨q, a, l, q1, q2, q3, q4, q5⟩ | ⟨q, a, d, q1, q2, q3, q4, q5⟩ | ⟨q, a, d, l, q1, q2, q3, q4, q5, q6, q7⟩ | ⟨q, a, d, q1, q2, q3, q4, q5⟩ | ⟨q, a, e, q1, q2, q3, q4, q5⟩ | ⟨q, a, d, e, q1, q2, q3, q4, q5, q6, q7⟩
  · rw [q2] at f0 p0
    have fin := finish (recC := mX0_find fc) (recR := mX6_found N fr) (N := N) (p := p) (resR := mX6_found_b0 N cp 0 0 (mX6_found N fr) Ar (nI p)) h (by omega) h1 hb (Or.inr (c_leaf (N := N) (p := p) q1 q3 h hb)) (fun A' cp' k' n' r e => ?_)
    · have eC : mX0_find_b0 (mX0_find fc) Ac (nI p) (nI lv) = (some (Ac, nI s)).bind fun q => mX0_find_b157 (mX0_find fc) q.1 (nI p) q.2 := by
        unfold mX0_find_b0
        have : s = 0 ∨ s = 1 := by omega
        rcases this with rfl | rfl
        · simp (disch := omega) only [lq2, lq3, lq4, lq5, lq6, lq7, lq8, lq9, lq10, lq11, lq40, lq59, lq60, lq61, lq100, lq500, lq2600, lq5208, lq1000000, ltT, ltF, leT, leF, eqT, eqF, lt0F, le0F, le0T, ge0T, eq0T, eq0F, eqm1F, ten0, m1lt0, eq_self, nI_add, nI_1, sub1, addm1, addm2, subn, cl0, cl1, ncl, ginT, gin0, gin1, ↓reduceIte, if_true, if_false, Nat.add_sub_cancel, obe, ↓gle, true_or, or_true, ↓(bnd f0), eq1F]
          rw [nI0]
        · simp (disch := omega) only [lq2, lq3, lq4, lq5, lq6, lq7, lq8, lq9, lq10, lq11, lq40, lq59, lq60, lq61, lq100, lq500, lq2600, lq5208, lq1000000, ltT, ltF, leT, leF, eqT, eqF, lt0F, le0F, le0T, ge0T, eq0T, eq0F, eqm1F, ten0, m1lt0, eq_self, nI_add, nI_1, sub1, addm1, addm2, subn, cl0, cl1, ncl, ginT, gin0, gin1, ↓reduceIte, if_true, if_false, Nat.add_sub_cancel, obe, ↓gle, true_or, or_true, ↓(bnd f0), eq1T]
          rw [← one_nI]
      rw [eC]; exact fin
    · have hs : mX6_sortFound N cp (mX6_found N fr) Ar (nI p) = some (A', (cp', k', n'), r) := by
        unfold mX6_sortFound mX6_sortFound_b0 mX6_sortFound_b52 mX6_sortFound_b64
        have : s = 0 ∨ s = 1 := by omega
        rcases this with rfl | rfl
        · simp (disch := omega) only [lq2, lq3, lq4, lq5, lq6, lq7, lq8, lq9, lq10, lq11, lq40, lq59, lq60, lq61, lq100, lq500, lq2600, lq5208, lq1000000, ltT, ltF, leT, leF, eqT, eqF, lt0F, le0F, le0T, ge0T, eq0T, eq0F, eqm1F, ten0, m1lt0, eq_self, nI_add, nI_1, sub1, addm1, addm2, subn, cl0, cl1, ncl, ginT, gin0, gin1, ↓reduceIte, if_true, if_false, Nat.add_sub_cancel, obe, ↓gle, true_or, or_true, ↓(bnd p0), ↓(bnd e), Nat.zero_add]
        · simp (disch := omega) only [lq2, lq3, lq4, lq5, lq6, lq7, lq8, lq9, lq10, lq11, lq40, lq59, lq60, lq61, lq100, lq500, lq2600, lq5208, lq1000000, ltT, ltF, leT, leF, eqT, eqF, lt0F, le0F, le0T, ge0T, eq0T, eq0F, eqm1F, ten0, m1lt0, eq_self, nI_add, nI_1, sub1, addm1, addm2, subn, cl0, cl1, ncl, ginT, gin0, gin1, ↓reduceIte, if_true, if_false, Nat.add_sub_cancel, obe, ↓gle, true_or, or_true, ↓(bnd p0), ↓(bnd e), eq1T, Nat.zero_add]
      show (mX6_sortFound N cp (mX6_found N fr) Ar (nI p)).bind _ = _
      rw [hs]; exact obe
  · rw [q] at f0 p0
    have hc := c_name (N := N) hp q2 q1 (fun z => hnl p hp q (by rw [q2, z])) q3 har pc pr h hb
    have fin := finish (recC := mX0_find fc) (recR := mX6_found N fr) (N := N) (p := p) (resR := mX6_found_b0 N cp 0 0 (mX6_found N fr) Ar (nI p)) h (by omega) h1 hb hc (fun A' cp' k' n' r e => ?_)
    · have eC : mX0_find_b0 (mX0_find fc) Ac (nI p) (nI lv) = (mX0_findName Ac (nI p)).bind fun q => mX0_find_b157 (mX0_find fc) q.1 (nI p) q.2 := by
        unfold mX0_find_b0
        simp (disch := omega) only [lq2, lq3, lq4, lq5, lq6, lq7, lq8, lq9, lq10, lq11, lq40, lq59, lq60, lq61, lq100, lq500, lq2600, lq5208, lq1000000, ltT, ltF, leT, leF, eqT, eqF, lt0F, le0F, le0T, ge0T, eq0T, eq0F, eqm1F, ten0, m1lt0, eq_self, nI_add, nI_1, sub1, addm1, addm2, subn, cl0, cl1, ncl, ginT, gin0, gin1, ↓reduceIte, if_true, if_false, Nat.add_sub_cancel, obe, ↓gle, true_or, or_true, ↓(bnd f0), eq1F]
      rw [eC]; exact fin
    · have hs : mX6_sortFound N cp (mX6_found N fr) Ar (nI p) = some (A', (cp', k', n'), r) := by
        unfold mX6_sortFound mX6_sortFound_b0 mX6_sortFound_b70
        simp (disch := omega) only [lq2, lq3, lq4, lq5, lq6, lq7, lq8, lq9, lq10, lq11, lq40, lq59, lq60, lq61, lq100, lq500, lq2600, lq5208, lq1000000, ltT, ltF, leT, leF, eqT, eqF, lt0F, le0F, le0T, ge0T, eq0T, eq0F, eqm1F, ten0, m1lt0, eq_self, nI_add, nI_1, sub1, addm1, addm2, subn, cl0, cl1, ncl, ginT, gin0, gin1, ↓reduceIte, if_true, if_false, Nat.add_sub_cancel, obe, ↓gle, true_or, or_true, ↓(bnd p0), ↓(bnd e), eq1F, Nat.zero_add]
      show (mX6_sortFound N cp (mX6_found N fr) Ar (nI p)).bind _ = _
      rw [hs]; exact obe
  · rw [q] at f0 p0
    have hc := c_wheel (N := N) (recC := mX0_find fc) (recR := mX6_found N fr) (lv := lv) hp q1 q3 q4 q2 q5 (rp a q1) har pc pr h hb
    have fin := finish (recC := mX0_find fc) (recR := mX6_found N fr) (N := N) (p := p) (resR := mX6_found_b0 N cp 0 0 (mX6_found N fr) Ar (nI p)) h (by omega) h1 hb hc (fun A' cp' k' n' r e => ?_)
    · have eC : mX0_find_b0 (mX0_find fc) Ac (nI p) (nI lv) = (mX0_findWheel (mX0_find fc) Ac (nI p) (nI lv)).bind fun q => mX0_find_b157 (mX0_find fc) q.1 (nI p) q.2 := by
        unfold mX0_find_b0
        simp (disch := omega) only [lq2, lq3, lq4, lq5, lq6, lq7, lq8, lq9, lq10, lq11, lq40, lq59, lq60, lq61, lq100, lq500, lq2600, lq5208, lq1000000, ltT, ltF, leT, leF, eqT, eqF, lt0F, le0F, le0T, ge0T, eq0T, eq0F, eqm1F, ten0, m1lt0, eq_self, nI_add, nI_1, sub1, addm1, addm2, subn, cl0, cl1, ncl, ginT, gin0, gin1, ↓reduceIte, if_true, if_false, Nat.add_sub_cancel, obe, ↓gle, true_or, or_true, ↓(bnd f0), eq1F]
      rw [eC]; exact fin
    · have hs : mX6_sortFound N cp (mX6_found N fr) Ar (nI p) = some (A', (cp', k', n'), r) := by
        unfold mX6_sortFound mX6_sortFound_b0 mX6_sortFound_b76
        simp (disch := omega) only [lq2, lq3, lq4, lq5, lq6, lq7, lq8, lq9, lq10, lq11, lq40, lq59, lq60, lq61, lq100, lq500, lq2600, lq5208, lq1000000, ltT, ltF, leT, leF, eqT, eqF, lt0F, le0F, le0T, ge0T, eq0T, eq0F, eqm1F, ten0, m1lt0, eq_self, nI_add, nI_1, sub1, addm1, addm2, subn, cl0, cl1, ncl, ginT, gin0, gin1, ↓reduceIte, if_true, if_false, Nat.add_sub_cancel, obe, ↓gle, true_or, or_true, ↓(bnd p0), ↓(bnd e), eq1F, Nat.zero_add]
      show (mX6_sortFound N cp (mX6_found N fr) Ar (nI p)).bind _ = _
      rw [hs]; exact obe
  · rw [q] at f0 p0
    have hc := c_turn (N := N) (recC := mX0_find fc) (recR := mX6_found N fr) (lv := lv) hp q1 q2 q3 q4 q5 (rp a q1) (rp d q2) har pc pr h hb
    have fin := finish (recC := mX0_find fc) (recR := mX6_found N fr) (N := N) (p := p) (resR := mX6_found_b0 N cp 0 0 (mX6_found N fr) Ar (nI p)) h (by omega) h1 hb hc (fun A' cp' k' n' r e => ?_)
    · have eC : mX0_find_b0 (mX0_find fc) Ac (nI p) (nI lv) = (mX0_findTurning (mX0_find fc) Ac (nI p) (nI lv)).bind fun q => mX0_find_b157 (mX0_find fc) q.1 (nI p) q.2 := by
        unfold mX0_find_b0
        simp (disch := omega) only [lq2, lq3, lq4, lq5, lq6, lq7, lq8, lq9, lq10, lq11, lq40, lq59, lq60, lq61, lq100, lq500, lq2600, lq5208, lq1000000, ltT, ltF, leT, leF, eqT, eqF, lt0F, le0F, le0T, ge0T, eq0T, eq0F, eqm1F, ten0, m1lt0, eq_self, nI_add, nI_1, sub1, addm1, addm2, subn, cl0, cl1, ncl, ginT, gin0, gin1, ↓reduceIte, if_true, if_false, Nat.add_sub_cancel, obe, ↓gle, true_or, or_true, ↓(bnd f0), eq1F]
      rw [eC]; exact fin
    · have hs : mX6_sortFound N cp (mX6_found N fr) Ar (nI p) = some (A', (cp', k', n'), r) := by
        unfold mX6_sortFound mX6_sortFound_b0 mX6_sortFound_b82
        simp (disch := omega) only [lq2, lq3, lq4, lq5, lq6, lq7, lq8, lq9, lq10, lq11, lq40, lq59, lq60, lq61, lq100, lq500, lq2600, lq5208, lq1000000, ltT, ltF, leT, leF, eqT, eqF, lt0F, le0F, le0T, ge0T, eq0T, eq0F, eqm1F, ten0, m1lt0, eq_self, nI_add, nI_1, sub1, addm1, addm2, subn, cl0, cl1, ncl, ginT, gin0, gin1, ↓reduceIte, if_true, if_false, Nat.add_sub_cancel, obe, ↓gle, true_or, or_true, ↓(bnd p0), ↓(bnd e), eq1F, Nat.zero_add]
      show (mX6_sortFound N cp (mX6_found N fr) Ar (nI p)).bind _ = _
      rw [hs]; exact obe
  · rw [q] at f0 p0
    have hc := c_tell (N := N) (recC := mX0_find fc) (recR := mX6_found N fr) (lv := lv) hp q1 q2 q4 q5 q6 q3 q7 (rp a q1) (rp d q2) har pc pr h hb
    have fin := finish (recC := mX0_find fc) (recR := mX6_found N fr) (N := N) (p := p) (resR := mX6_found_b0 N cp 0 0 (mX6_found N fr) Ar (nI p)) h (by omega) h1 hb hc (fun A' cp' k' n' r e => ?_)
    · have eC : mX0_find_b0 (mX0_find fc) Ac (nI p) (nI lv) = (mX0_findTelling (mX0_find fc) Ac (nI p) (nI lv)).bind fun q => mX0_find_b157 (mX0_find fc) q.1 (nI p) q.2 := by
        unfold mX0_find_b0
        simp (disch := omega) only [lq2, lq3, lq4, lq5, lq6, lq7, lq8, lq9, lq10, lq11, lq40, lq59, lq60, lq61, lq100, lq500, lq2600, lq5208, lq1000000, ltT, ltF, leT, leF, eqT, eqF, lt0F, le0F, le0T, ge0T, eq0T, eq0F, eqm1F, ten0, m1lt0, eq_self, nI_add, nI_1, sub1, addm1, addm2, subn, cl0, cl1, ncl, ginT, gin0, gin1, ↓reduceIte, if_true, if_false, Nat.add_sub_cancel, obe, ↓gle, true_or, or_true, ↓(bnd f0), eq1F]
      rw [eC]; exact fin
    · have hs : mX6_sortFound N cp (mX6_found N fr) Ar (nI p) = some (A', (cp', k', n'), r) := by
        unfold mX6_sortFound mX6_sortFound_b0 mX6_sortFound_b88
        simp (disch := omega) only [lq2, lq3, lq4, lq5, lq6, lq7, lq8, lq9, lq10, lq11, lq40, lq59, lq60, lq61, lq100, lq500, lq2600, lq5208, lq1000000, ltT, ltF, leT, leF, eqT, eqF, lt0F, le0F, le0T, ge0T, eq0T, eq0F, eqm1F, ten0, m1lt0, eq_self, nI_add, nI_1, sub1, addm1, addm2, subn, cl0, cl1, ncl, ginT, gin0, gin1, ↓reduceIte, if_true, if_false, Nat.add_sub_cancel, obe, ↓gle, true_or, or_true, ↓(bnd p0), ↓(bnd e), eq1F, Nat.zero_add]
      show (mX6_sortFound N cp (mX6_found N fr) Ar (nI p)).bind _ = _
      rw [hs]; exact obe
  · rw [q] at f0 p0
    have hc := c_axle (N := N) (recC := mX0_find fc) (recR := mX6_found N fr) (lv := lv) hp q1 q2 q3 q4 q5 (rp a q1) (rp d q2) har pc pr h hb
    have fin := finish (recC := mX0_find fc) (recR := mX6_found N fr) (N := N) (p := p) (resR := mX6_found_b0 N cp 0 0 (mX6_found N fr) Ar (nI p)) h (by omega) h1 hb hc (fun A' cp' k' n' r e => ?_)
    · have eC : mX0_find_b0 (mX0_find fc) Ac (nI p) (nI lv) = (mX0_findAxle (mX0_find fc) Ac (nI p) (nI lv)).bind fun q => mX0_find_b157 (mX0_find fc) q.1 (nI p) q.2 := by
        unfold mX0_find_b0
        simp (disch := omega) only [lq2, lq3, lq4, lq5, lq6, lq7, lq8, lq9, lq10, lq11, lq40, lq59, lq60, lq61, lq100, lq500, lq2600, lq5208, lq1000000, ltT, ltF, leT, leF, eqT, eqF, lt0F, le0F, le0T, ge0T, eq0T, eq0F, eqm1F, ten0, m1lt0, eq_self, nI_add, nI_1, sub1, addm1, addm2, subn, cl0, cl1, ncl, ginT, gin0, gin1, ↓reduceIte, if_true, if_false, Nat.add_sub_cancel, obe, ↓gle, true_or, or_true, ↓(bnd f0), eq1F]
      rw [eC]; exact fin
    · have hs : mX6_sortFound N cp (mX6_found N fr) Ar (nI p) = some (A', (cp', k', n'), r) := by
        unfold mX6_sortFound mX6_sortFound_b0 mX6_sortFound_b94
        simp (disch := omega) only [lq2, lq3, lq4, lq5, lq6, lq7, lq8, lq9, lq10, lq11, lq40, lq59, lq60, lq61, lq100, lq500, lq2600, lq5208, lq1000000, ltT, ltF, leT, leF, eqT, eqF, lt0F, le0F, le0T, ge0T, eq0T, eq0F, eqm1F, ten0, m1lt0, eq_self, nI_add, nI_1, sub1, addm1, addm2, subn, cl0, cl1, ncl, ginT, gin0, gin1, ↓reduceIte, if_true, if_false, Nat.add_sub_cancel, obe, ↓gle, true_or, or_true, ↓(bnd p0), ↓(bnd e), eq1F, Nat.zero_add]
      show (mX6_sortFound N cp (mX6_found N fr) Ar (nI p)).bind _ = _
      rw [hs]; exact obe
  · rw [q] at f0 p0
    have hc := c_end (N := N) (recC := mX0_find fc) (recR := mX6_found N fr) (lv := lv) hp q1 q3 q4 q2 q5 (rp a q1) har pc pr h hb
    have fin := finish (recC := mX0_find fc) (recR := mX6_found N fr) (N := N) (p := p) (resR := mX6_found_b0 N cp 0 0 (mX6_found N fr) Ar (nI p)) h (by omega) h1 hb hc (fun A' cp' k' n' r e => ?_)
    · have eC : mX0_find_b0 (mX0_find fc) Ac (nI p) (nI lv) = (mX0_findEnd (mX0_find fc) Ac (nI p) (nI lv)).bind fun q => mX0_find_b157 (mX0_find fc) q.1 (nI p) q.2 := by
        unfold mX0_find_b0
        simp (disch := omega) only [lq2, lq3, lq4, lq5, lq6, lq7, lq8, lq9, lq10, lq11, lq40, lq59, lq60, lq61, lq100, lq500, lq2600, lq5208, lq1000000, ltT, ltF, leT, leF, eqT, eqF, lt0F, le0F, le0T, ge0T, eq0T, eq0F, eqm1F, ten0, m1lt0, eq_self, nI_add, nI_1, sub1, addm1, addm2, subn, cl0, cl1, ncl, ginT, gin0, gin1, ↓reduceIte, if_true, if_false, Nat.add_sub_cancel, obe, ↓gle, true_or, or_true, ↓(bnd f0), eq1F]
      rw [eC]; exact fin
    · have hs : mX6_sortFound N cp (mX6_found N fr) Ar (nI p) = some (A', (cp', k', n'), r) := by
        unfold mX6_sortFound mX6_sortFound_b0 mX6_sortFound_b100
        simp (disch := omega) only [lq2, lq3, lq4, lq5, lq6, lq7, lq8, lq9, lq10, lq11, lq40, lq59, lq60, lq61, lq100, lq500, lq2600, lq5208, lq1000000, ltT, ltF, leT, leF, eqT, eqF, lt0F, le0F, le0T, ge0T, eq0T, eq0F, eqm1F, ten0, m1lt0, eq_self, nI_add, nI_1, sub1, addm1, addm2, subn, cl0, cl1, ncl, ginT, gin0, gin1, ↓reduceIte, if_true, if_false, Nat.add_sub_cancel, obe, ↓gle, true_or, or_true, ↓(bnd p0), ↓(bnd e), eq1F, Nat.zero_add]
      show (mX6_sortFound N cp (mX6_found N fr) Ar (nI p)).bind _ = _
      rw [hs]; exact obe
  · rw [q] at f0 p0
    have hc := c_choice (N := N) (recC := mX0_find fc) (recR := mX6_found N fr) (lv := lv) hp q1 q2 q3 q4 q5 q6 q7 (rp a q1) (rp d q2) (rp e q3) har pc pr h hb
    have fin := finish (recC := mX0_find fc) (recR := mX6_found N fr) (N := N) (p := p) (resR := mX6_found_b0 N cp 0 0 (mX6_found N fr) Ar (nI p)) h (by omega) h1 hb hc (fun A' cp' k' n' r e => ?_)
    · have eC : mX0_find_b0 (mX0_find fc) Ac (nI p) (nI lv) = (mX0_findChoice (mX0_find fc) Ac (nI p) (nI lv)).bind fun q => mX0_find_b157 (mX0_find fc) q.1 (nI p) q.2 := by
        unfold mX0_find_b0
        simp (disch := omega) only [lq2, lq3, lq4, lq5, lq6, lq7, lq8, lq9, lq10, lq11, lq40, lq59, lq60, lq61, lq100, lq500, lq2600, lq5208, lq1000000, ltT, ltF, leT, leF, eqT, eqF, lt0F, le0F, le0T, ge0T, eq0T, eq0F, eqm1F, ten0, m1lt0, eq_self, nI_add, nI_1, sub1, addm1, addm2, subn, cl0, cl1, ncl, ginT, gin0, gin1, ↓reduceIte, if_true, if_false, Nat.add_sub_cancel, obe, ↓gle, true_or, or_true, ↓(bnd f0), eq1F]
      rw [eC]; exact fin
    · have hs : mX6_sortFound N cp (mX6_found N fr) Ar (nI p) = some (A', (cp', k', n'), r) := by
        unfold mX6_sortFound mX6_sortFound_b0 mX6_sortFound_b106
        simp (disch := omega) only [lq2, lq3, lq4, lq5, lq6, lq7, lq8, lq9, lq10, lq11, lq40, lq59, lq60, lq61, lq100, lq500, lq2600, lq5208, lq1000000, ltT, ltF, leT, leF, eqT, eqF, lt0F, le0F, le0T, ge0T, eq0T, eq0F, eqm1F, ten0, m1lt0, eq_self, nI_add, nI_1, sub1, addm1, addm2, subn, cl0, cl1, ncl, ginT, gin0, gin1, ↓reduceIte, if_true, if_false, Nat.add_sub_cancel, obe, ↓gle, true_or, or_true, ↓(bnd p0), ↓(bnd e), eq1F, Nat.zero_add]
      show (mX6_sortFound N cp (mX6_found N fr) Ar (nI p)).bind _ = _
      rw [hs]; exact obe
end FD
