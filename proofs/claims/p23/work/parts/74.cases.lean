/-! FINDING, SORT BY SORT -/
def PTc (Ac : gM) (np : Nat) (F : Nat → Nat → Int32) : Prop := Ac 1 1 = nI np ∧ np ≤ 40 ∧ ∀ p, p < np → ∀ w, w < 6 → Ac (3 + p) w = F p w
def PTr (Ar : gM) (np : Nat) (F : Nat → Nat → Int32) : Prop := ∀ p, p < np → ∀ w, w < 6 → Ar 184 (6 * p + w) = F p w
theorem PTc_off {ar np : Nat} {A B : gM} {F : Nat → Nat → Int32} (o : offC ar A B) (h : PTc A np F) : PTc B np F := ⟨by rw [o 1 1 (by omega)]; exact h.1, h.2.1, fun p hp w hw => by rw [o (3 + p) w (by have := h.2.1; omega)]; exact h.2.2 p hp w hw⟩
theorem PTr_off {ar ze np : Nat} {A B : gM} {F : Nat → Nat → Int32} (o : offR (ar + ze) A B) (h : PTr A np F) : PTr B np F := fun p hp w hw => by rw [o 184 _ (by omega)]; exact h p hp w hw
def bud (s uc ur pr sc : Nat) : Prop := 3 * uc + 120 * s + 60 ≤ 7800 ∧ 3 * ur + 121 * s + 59 ≤ 23900 ∧ 3 * pr + 58 * s + 29 ≤ 3740 ∧ sc + 6000 * s ≤ 1999990000
def FFail (ar ze s : Nat) (resC : Option (gM × Int32)) (resR : Option (gM × (Nat × Nat × Nat) × Int32)) (Ac : gM) (sc : Nat) (Ar : gM) (cp : Nat) : Prop :=
  ∃ Ac' sc' Ar' cp' k n f q, resC = some (Ac', -1) ∧ resR = some (Ar', (cp', k, n), -1) ∧ cost cp cp' k n ∧ (Ac' 128 3 = nI f ∧ Ac' 128 4 = nI q ∧ Ar' 183 12 = nI f ∧ Ar' 183 13 = nI q) ∧ (1 ≤ f ∧ f ≤ 4 ∧ q ≤ 40) ∧ stI Ac' sc' ∧ sc' ≤ sc + 6000 * s ∧ offC ar Ac Ac' ∧ offR (ar + ze) Ar Ar' ∧ rO Ar' cp'
def FOk (s : Nat) (resC : Option (gM × Int32)) (resR : Option (gM × (Nat × Nat × Nat) × Int32)) (Q : Rw → Prop) (Ac : gM) (uc : Nat) (Tc : Nat → Rw) (sc : Nat) (Ar : gM) (cp b ur : Nat) (Tr : Nat → Rw) (ρ : Nat → Nat) (V W : Nat → Prop) (ar : Nat) (env : Nat → Rw) (om : Nat → Nat → Nat) (tn : Nat → Nat) (ze zl zt : Nat) : Prop :=
  ∃ Ac1 uc1 Tc1 sc1 Ar1 cp1 ur1 Tr1 ρ1 V1 W1 k n rc rr, resC = some (Ac1, nI rc) ∧ resR = some (Ar1, (cp1, k, n), nI rr) ∧ Prog Ac uc Tc sc Ar cp b ur Tr ρ V W ar env om tn ze zl zt Ac1 uc1 Tc1 sc1 Ar1 cp1 ur1 Tr1 ρ1 V1 W1 k n (120 * s + 60) (121 * s + 59) (58 * s + 29) (6000 * s) ∧ RowR uc1 Tc1 b ur1 Tr1 ρ1 W1 rc rr ∧ Q (Tc1 rc)
def RP (F : Nat → Nat → Int32) (sz : Nat → Nat) (np zl : Nat) (recC : gM → Int32 → Int32 → Option (gM × Int32)) (recR : Nat → gM → Int32 → Option (gM × (Nat × Nat × Nat) × Int32)) (lv a : Nat) : Prop :=
  ∀ {Ac : gM} {uc : Nat} {Tc : Nat → Rw} {sc : Nat} {Ar : gM} {cp ur : Nat} {Tr : Nat → Rw} {ρ : Nat → Nat} {V W : Nat → Prop} {b ar : Nat} {env : Nat → Rw} {om : Nat → Nat → Nat} {tn : Nat → Nat} {ze zt : Nat}, ar + a ≤ 39 → PTc Ac np F → PTr Ar np F → Sim Ac uc Tc sc Ar cp b ur Tr ρ V W ar env om tn ze zl zt → bud (sz a) uc ur (prs Ar b ur).length sc →
    FFail ar ze (sz a) (recC Ac (nI a) (nI lv + 1)) (recR cp Ar (nI a)) Ac sc Ar cp ∨ FOk (sz a) (recC Ac (nI a) (nI lv + 1)) (recR cp Ar (nI a)) (fun r => r.length ≤ 60) Ac uc Tc sc Ar cp b ur Tr ρ V W ar env om tn ze zl zt
section CS
variable {Ac : gM} {uc : Nat} {Tc : Nat → Rw} {sc : Nat} {Ar : gM} {cp ur : Nat} {Tr : Nat → Rw} {ρ : Nat → Nat} {V W : Nat → Prop} {Ac1 : gM} {uc1 : Nat} {Tc1 : Nat → Rw} {sc1 : Nat} {Ar1 : gM} {cp1 ur1 : Nat} {Tr1 : Nat → Rw} {ρ1 : Nat → Nat} {V1 W1 : Nat → Prop} {Ac2 : gM} {uc2 : Nat} {Tc2 : Nat → Rw} {sc2 : Nat} {Ar2 : gM} {cp2 ur2 : Nat} {Tr2 : Nat → Rw} {ρ2 : Nat → Nat} {V2 W2 : Nat → Prop} {b ar : Nat} {env : Nat → Rw} {om : Nat → Nat → Nat} {tn : Nat → Nat} {ze zl zt : Nat}
theorem Prog_rfl (h : Sim Ac uc Tc sc Ar cp b ur Tr ρ V W ar env om tn ze zl zt) : Prog Ac uc Tc sc Ar cp b ur Tr ρ V W ar env om tn ze zl zt Ac uc Tc sc Ar cp ur Tr ρ V W 0 0 0 0 0 0 := by
  have h5 := h.2.2.2.2.1
  obtain ⟨chr, s3⟩ := h.2.2.1
  exact ⟨h, fun x => ⟨fun q => ⟨h5 x q, fun _ => q⟩, fun q => q.2 q.1⟩, Adv_rfl (Nat.le_refl _) (Nat.le_refl _) (fun _ _ => rfl) (fun _ _ => rfl) (fun _ _ => rfl) h5, cost_rfl s3.1.2.1, fun _ _ _ => rfl, fun _ _ _ => rfl, by omega, by omega, by omega, by omega, rfl, rfl⟩
theorem rO_of (h : Sim Ac uc Tc sc Ar cp b ur Tr ρ V W ar env om tn ze zl zt) : rO Ar cp := by obtain ⟨chr, s3⟩ := h.2.2.1; exact s3.1.2.2.2.2.1
theorem okc_of (h : Sim Ac uc Tc sc Ar cp b ur Tr ρ V W ar env om tn ze zl zt) : okc cp := by obtain ⟨chr, s3⟩ := h.2.2.1; exact s3.1.2.1
theorem FFail_tr {k n du dr dp ds s s' : Nat} {rC resC : Option (gM × Int32)} {rR resR : Option (gM × (Nat × Nat × Nat) × Int32)} (h : Prog Ac uc Tc sc Ar cp b ur Tr ρ V W ar env om tn ze zl zt Ac1 uc1 Tc1 sc1 Ar1 cp1 ur1 Tr1 ρ1 V1 W1 k n du dr dp ds) (hf : FFail ar ze s' rC rR Ac1 sc1 Ar1 cp1) (hs : ds + 6000 * s' ≤ 6000 * s)
    (hC : ∀ A', rC = some (A', -1) → resC = some (A', -1)) (hR : ∀ A' cp' k' n', rR = some (A', (cp', k', n'), -1) → resR = some (A', (cp', k + k', n + n'), -1)) : FFail ar ze s resC resR Ac sc Ar cp := by
  obtain ⟨a1, a2, a3, a4, a5, a6, a7, a8, a9, a10, a11, a12⟩ := h
  obtain ⟨Ac', sc', Ar', cp', k', n', f, q, e1, e2, c, e3, e4, st, hsc, o1, o2, hO⟩ := hf
  exact ⟨Ac', sc', Ar', cp', k + k', n + n', f, q, hC _ e1, hR _ _ _ _ e2, cost_tr a4 c, e3, e4, st, by omega, offC_tr a5 o1, offR_tr a6 o2, hO⟩
theorem FOk_tr {k n du dr dp ds s rc rr : Nat} {resC : Option (gM × Int32)} {resR : Option (gM × (Nat × Nat × Nat) × Int32)} {Q : Rw → Prop} (h : Prog Ac uc Tc sc Ar cp b ur Tr ρ V W ar env om tn ze zl zt Ac1 uc1 Tc1 sc1 Ar1 cp1 ur1 Tr1 ρ1 V1 W1 k n du dr dp ds) (hR : RowR uc1 Tc1 b ur1 Tr1 ρ1 W1 rc rr) (e1 : resC = some (Ac1, nI rc)) (e2 : resR = some (Ar1, (cp1, k, n), nI rr)) (h1 : du ≤ 120 * s + 60) (h2 : dr ≤ 121 * s + 59) (h3 : dp ≤ 58 * s + 29) (h4 : ds ≤ 6000 * s) (hQ : Q (Tc1 rc)) : FOk s resC resR Q Ac uc Tc sc Ar cp b ur Tr ρ V W ar env om tn ze zl zt :=
  ⟨Ac1, uc1, Tc1, sc1, Ar1, cp1, ur1, Tr1, ρ1, V1, W1, k, n, rc, rr, e1, e2, Prog_le h h1 h2 h3 h4, hR, hQ⟩
theorem cfail_k {A : gM} {v w : Int32} : mX0_fail A v w = some (g_up (g_up A 128 3 v) 128 4 w, -1) := by
  unfold mX0_fail mX0_fail_b0
  simp (disch := omega) only [lq2, lq3, lq4, lq5, lq6, lq7, lq8, lq9, lq10, lq11, lq40, lq59, lq60, lq61, lq100, lq500, lq2600, lq5208, lq1000000, ltT, ltF, leT, leF, eqT, eqF, lt0F, le0F, le0T, ge0T, eq0T, eq0F, eqm1F, ten0, m1lt0, eq_self, nI_add, nI_1, sub1, addm1, addm2, subn, cl0, cl1, ncl, ginT, gin0, gin1, ↓reduceIte, if_true, if_false, Nat.add_sub_cancel, obe, ↓gle, true_or, or_true]
theorem rfail_k {cp : Nat} {A : gM} {v w : Int32} : mX6_failed cp A v w = some (g_up (g_up A 183 12 v) 183 13 w, -1) := by
  unfold mX6_failed mX6_failed_b0
  simp (disch := omega) only [lq2, lq3, lq4, lq5, lq6, lq7, lq8, lq9, lq10, lq11, lq40, lq59, lq60, lq61, lq100, lq500, lq2600, lq5208, lq1000000, ltT, ltF, leT, leF, eqT, eqF, lt0F, le0F, le0T, ge0T, eq0T, eq0F, eqm1F, ten0, m1lt0, eq_self, nI_add, nI_1, sub1, addm1, addm2, subn, cl0, cl1, ncl, ginT, gin0, gin1, ↓reduceIte, if_true, if_false, Nat.add_sub_cancel, obe, ↓gle, true_or, or_true]
theorem prog_u {k n du dr dp ds : Nat} (h : Prog Ac uc Tc sc Ar cp b ur Tr ρ V W ar env om tn ze zl zt Ac1 uc1 Tc1 sc1 Ar1 cp1 ur1 Tr1 ρ1 V1 W1 k n du dr dp ds) : uc1 ≤ 2600 ∧ ur1 ≤ 8000 := by
  obtain ⟨chc, s1⟩ := h.1.1
  obtain ⟨chr, s3⟩ := h.1.2.2.1
  exact ⟨s1.2.2.1, by have := okc_le s3.1.2.1; have := s3.1.2.2.1; omega⟩
/-- the fault at a part, told on both sides -/
theorem FFail_at {k n du dr dp ds s f p : Nat} {resC : Option (gM × Int32)} {resR : Option (gM × (Nat × Nat × Nat) × Int32)} {Ac2 Ar2 : gM} {sc2 : Nat} (h : Prog Ac uc Tc sc Ar cp b ur Tr ρ V W ar env om tn ze zl zt Ac1 uc1 Tc1 sc1 Ar1 cp1 ur1 Tr1 ρ1 V1 W1 k n du dr dp ds) (oC : offC ar Ac1 Ac2) (st : stI Ac2 sc2) (hsc : sc2 ≤ sc1 + 2700) (oR : offR (ar + ze) Ar1 Ar2) (hO : rO Ar2 cp1) (hf : 1 ≤ f ∧ f ≤ 4) (hp : p ≤ 40) (hs : ds + 2700 ≤ 6000 * s) (f12 : Ar2 183 12 = nI f) (f13 : Ar2 183 13 = nI p)
    (e1 : resC = some (g_up (g_up Ac2 128 3 (nI f)) 128 4 (nI p), -1)) (e2 : resR = some (Ar2, (cp1, k, n), -1)) : FFail ar ze s resC resR Ac sc Ar cp := by
  obtain ⟨a1, a2, a3, a4, a5, a6, a7, a8, a9, a10, a11, a12⟩ := h
  have g : ∀ a x, a ≠ 128 → g_up (g_up Ac2 128 3 (nI f)) 128 4 (nI p) a x = Ac2 a x := fun a x q => by rw [up_c q, up_c q]
  exact ⟨_, sc2, Ar2, cp1, k, n, f, p, e1, e2, a4, ⟨by rw [up_p (by omega), up_s], up_s, f12, f13⟩, ⟨hf.1, hf.2, hp⟩, stI_off st (g 129 10 (by omega)) (funext fun x => g 133 x (by omega)), by omega, fun a x q => by rw [g a x (by omega), oC a x q, a5 a x q], offR_tr a6 oR, hO⟩
end CS
section CT
variable {F : Nat → Nat → Int32} {sz : Nat → Nat} {np N : Nat} {recC : gM → Int32 → Int32 → Option (gM × Int32)} {recR : Nat → gM → Int32 → Option (gM × (Nat × Nat × Nat) × Int32)} {lv p a d e l : Nat}
variable {Ac : gM} {uc : Nat} {Tc : Nat → Rw} {sc : Nat} {Ar : gM} {cp ur : Nat} {Tr : Nat → Rw} {ρ : Nat → Nat} {V W : Nat → Prop} {b ar : Nat} {env : Nat → Rw} {om : Nat → Nat → Nat} {tn : Nat → Nat} {ze zl zt : Nat}
theorem m1m1 : ((-1 : Int32) = -1) = True := eq_true rfl
/-- turning -/
theorem c_turn (hp : p < np) (ha : a < p) (hd : d < p) (F1 : F p 1 = nI a) (F2 : F p 2 = nI d) (hs : sz p = 1 + sz a + sz d) (ra : RP F sz np zl recC recR lv a) (rd : RP F sz np zl recC recR lv d) (har : ar + p ≤ 39) (pc : PTc Ac np F) (pr : PTr Ar np F) (h : Sim Ac uc Tc sc Ar cp b ur Tr ρ V W ar env om tn ze zl zt) (hb : bud (sz p) uc ur (prs Ar b ur).length sc) :
    FFail ar ze (sz p) (mX0_findTurning recC Ac (nI p) (nI lv)) (mX6_turningFound N cp recR Ar (nI p)) Ac sc Ar cp ∨ FOk (sz p) (mX0_findTurning recC Ac (nI p) (nI lv)) (mX6_turningFound N cp recR Ar (nI p)) (fun _ => True) Ac uc Tc sc Ar cp b ur Tr ρ V W ar env om tn ze zl zt := by
  have hpn := pc.2.1
  obtain ⟨b1, b2, b3, b4⟩ := hb
  have f1 : mX2_fact Ac (nI p) 1 = some (Ac, nI a) := by rw [fact_1 pc.1 hp hpn, pc.2.2 p hp 1 (by omega), F1]
  have p1 : mX6_pa cp Ar (nI p) 1 = some (Ar, nI a) := by rw [pa_1 (by omega), pr p hp 1 (by omega), F1]
  rcases ra (by omega) pc pr h ⟨by omega, by omega, by omega, by omega⟩ with h1 | ⟨Ac1, uc1, Tc1, sc1, Ar1, cp1, ur1, Tr1, ρ1, V1, W1, k1, n1, rc1, rr1, e1, r1, g1, w1, -⟩
  · refine Or.inl (FFail_tr (Prog_rfl h) h1 (by omega) (fun A' e => ?_) fun A' cp' k' n' e => ?_)
    · unfold mX0_findTurning mX0_findTurning_b0
      simp (disch := omega) only [lq2, lq3, lq4, lq5, lq6, lq7, lq8, lq9, lq10, lq11, lq40, lq59, lq60, lq61, lq100, lq500, lq2600, lq5208, lq1000000, ltT, ltF, leT, leF, eqT, eqF, lt0F, le0F, le0T, ge0T, eq0T, eq0F, eqm1F, ten0, m1lt0, eq_self, nI_add, nI_1, sub1, addm1, addm2, subn, cl0, cl1, ncl, ginT, gin0, gin1, ↓reduceIte, if_true, if_false, Nat.add_sub_cancel, obe, ↓gle, true_or, or_true, ↓(bnd f1), ↓(bnd e)]
    · unfold mX6_turningFound mX6_turningFound_b0 mX6_turningFound_b10
      simp (disch := omega) only [lq2, lq3, lq4, lq5, lq6, lq7, lq8, lq9, lq10, lq11, lq40, lq59, lq60, lq61, lq100, lq500, lq2600, lq5208, lq1000000, ltT, ltF, leT, leF, eqT, eqF, lt0F, le0F, le0T, ge0T, eq0T, eq0F, eqm1F, ten0, m1lt0, eq_self, nI_add, nI_1, sub1, addm1, addm2, subn, cl0, cl1, ncl, ginT, gin0, gin1, ↓reduceIte, if_true, if_false, Nat.add_sub_cancel, obe, ↓gle, true_or, or_true, ↓(bnd p1), ↓(bnd e)]
  have G1 := Prog_tr (Prog_rfl h) g1
  have u1 := prog_u g1
  have pc1 := PTc_off g1.2.2.2.2.1 pc
  have pr1 := PTr_off g1.2.2.2.2.2.1 pr
  have rb1 : rc1 ≤ 2600 ∧ rr1 ≤ 8000 := ⟨by have := w1.1; omega, by have := w1.2.1; omega⟩
  have f2 : mX2_fact Ac1 (nI p) 2 = some (Ac1, nI d) := by rw [fact_2 pc1.1 hp hpn, pc1.2.2 p hp 2 (by omega), F2]
  have p2 : mX6_pa cp1 Ar1 (nI p) 2 = some (Ar1, nI d) := by rw [pa_2 (by omega), pr1 p hp 2 (by omega), F2]
  obtain ⟨q1, q2, q3, q4, q5, q6, q7, q8, q9, q10, q11, q12⟩ := id G1
  rcases rd (by omega) pc1 pr1 g1.1 ⟨by omega, by omega, by omega, by omega⟩ with h2 | ⟨Ac2, uc2, Tc2, sc2, Ar2, cp2, ur2, Tr2, ρ2, V2, W2, k2, n2, rc2, rr2, e2, r2, g2, w2, -⟩
  · refine Or.inl (FFail_tr G1 h2 (by omega) (fun A' e => ?_) fun A' cp' k' n' e => ?_)
    · unfold mX0_findTurning mX0_findTurning_b0
      simp (disch := omega) only [lq2, lq3, lq4, lq5, lq6, lq7, lq8, lq9, lq10, lq11, lq40, lq59, lq60, lq61, lq100, lq500, lq2600, lq5208, lq1000000, ltT, ltF, leT, leF, eqT, eqF, lt0F, le0F, le0T, ge0T, eq0T, eq0F, eqm1F, ten0, m1lt0, eq_self, nI_add, nI_1, sub1, addm1, addm2, subn, cl0, cl1, ncl, ginT, gin0, gin1, ↓reduceIte, if_true, if_false, Nat.add_sub_cancel, obe, ↓gle, true_or, or_true, ↓(bnd f1), ↓(bnd e1), ↓(bnd f2), ↓(bnd e)]
    · unfold mX6_turningFound mX6_turningFound_b0 mX6_turningFound_b10 mX6_turningFound_b28
      simp (disch := omega) only [lq2, lq3, lq4, lq5, lq6, lq7, lq8, lq9, lq10, lq11, lq40, lq59, lq60, lq61, lq100, lq500, lq2600, lq5208, lq1000000, ltT, ltF, leT, leF, eqT, eqF, lt0F, le0F, le0T, ge0T, eq0T, eq0F, eqm1F, ten0, m1lt0, eq_self, nI_add, nI_1, sub1, addm1, addm2, subn, cl0, cl1, ncl, ginT, gin0, gin1, ↓reduceIte, if_true, if_false, Nat.add_sub_cancel, obe, ↓gle, true_or, or_true, ↓(bnd p1), ↓(bnd r1), ↓(bnd p2), ↓(bnd e)]
  have G2 := Prog_tr G1 g2
  have u2 := prog_u g2
  have rb2 : rc2 ≤ 2600 ∧ rr2 ≤ 8000 := ⟨by have := w2.1; omega, by have := w2.2.1; omega⟩
  obtain ⟨t1, t2, t3, t4, t5, t6, t7, t8, t9, t10, t11, t12⟩ := id G2
  obtain ⟨Ac3, Tc3, Ar3, cp3, Tr3, ρ3, V3, W3, k3, n3, e3, r3, g3, w3, -⟩ := both_var (N := N) g2.1 (by omega) (by omega)
  have G3 := Prog_tr G2 g3
  have w2' := Row_prog g2.1.low g2.1.2.2.2.2.1 g3 w2
  obtain ⟨Ac4, Tc4, Ar4, cp4, Tr4, W4, k4, n4, e4, r4, g4, w4, -⟩ := both_pair (N := N) (c := 2) g3.1 (by omega) (by omega) (Or.inl rfl) w2' w3
  have G4 := Prog_tr G3 g4
  have w1' := Row_prog g3.1.low g3.1.2.2.2.2.1 g4 (Row_prog g2.1.low g2.1.2.2.2.2.1 g3 (Row_prog g1.1.low g1.1.2.2.2.2.1 g2 w1))
  have w3' := Row_prog g3.1.low g3.1.2.2.2.2.1 g4 w3
  have hpr : (prs Ar4 b (ur2 + 1 + 1)).length + 1 < 1250 := by have := G4.2.2.2.2.2.2.2.2.1; omega
  have hsc : sc2 ≤ 1999990000 := by have := G4.2.2.2.2.2.2.2.2.2.1; omega
  have e4' : mX4_make Ac3 2 (nI rc2) (nI uc2) = some (Ac4, nI (uc2 + 1)) := by rw [lq2]; exact e4
  have r4' : mX6_node N cp3 Ar3 2 (nI rr2) (nI ur2) = some (Ar4, (cp4, k4, n4), nI (ur2 + 1)) := by rw [lq2]; exact r4
  rcases both_match (part := nI p) g4.1 w1' w4 hpr hsc with ⟨f, Ac5, sc5, Ar5, z1, z2, m1, j1, o1, st, hs5, o2, hO, y1, y2⟩ | ⟨Ac5, Tc5, sc5, Ar5, Tr5, W5, m1, j1, g5⟩
  · refine Or.inl (FFail_at (f := f) (p := p) G4 o1 st (by omega) o2 hO ⟨z1, by omega⟩ (by omega) (by omega) y1 y2 ?_ ?_)
    · unfold mX0_findTurning mX0_findTurning_b0 mX0_findTurning_b97
      simp (disch := omega) only [lq2, lq3, lq4, lq5, lq6, lq7, lq8, lq9, lq10, lq11, lq40, lq59, lq60, lq61, lq100, lq500, lq2600, lq5208, lq1000000, ltT, ltF, leT, leF, eqT, eqF, lt0F, le0F, le0T, ge0T, eq0T, eq0F, eqm1F, ten0, m1lt0, eq_self, nI_add, nI_1, sub1, addm1, addm2, subn, cl0, cl1, ncl, ginT, gin0, gin1, ↓reduceIte, if_true, if_false, Nat.add_sub_cancel, obe, ↓gle, true_or, or_true, ↓(bnd f1), ↓(bnd e1), ↓(bnd f2), ↓(bnd e2), ↓(bnd e3), ↓(bnd e4'), ↓(bnd m1), cfail_k]
    · unfold mX6_turningFound mX6_turningFound_b0 mX6_turningFound_b10 mX6_turningFound_b28 mX6_turningFound_b40 mX6_turningFound_b52 mX6_turningFound_b65
      simp (disch := omega) only [lq2, lq3, lq4, lq5, lq6, lq7, lq8, lq9, lq10, lq11, lq40, lq59, lq60, lq61, lq100, lq500, lq2600, lq5208, lq1000000, ltT, ltF, leT, leF, eqT, eqF, lt0F, le0F, le0T, ge0T, eq0T, eq0F, eqm1F, ten0, m1lt0, eq_self, nI_add, nI_1, sub1, addm1, addm2, subn, cl0, cl1, ncl, ginT, gin0, gin1, ↓reduceIte, if_true, if_false, Nat.add_sub_cancel, obe, ↓gle, true_or, or_true, ↓(bnd p1), ↓(bnd r1), ↓(bnd p2), ↓(bnd r2), ↓(bnd r3), ↓(bnd r4'), ↓(bnd j1)]
  · have G5 := Prog_tr G4 g5
    have w3'' := Row_prog g4.1.low g4.1.2.2.2.2.1 g5 w3'
    refine Or.inr (FOk_tr G5 w3'' ?_ ?_ (by omega) (by omega) (by omega) (by omega) trivial)
    · unfold mX0_findTurning mX0_findTurning_b0 mX0_findTurning_b97
      simp (disch := omega) only [lq2, lq3, lq4, lq5, lq6, lq7, lq8, lq9, lq10, lq11, lq40, lq59, lq60, lq61, lq100, lq500, lq2600, lq5208, lq1000000, ltT, ltF, leT, leF, eqT, eqF, lt0F, le0F, le0T, ge0T, eq0T, eq0F, eqm1F, ten0, m1lt0, eq_self, nI_add, nI_1, sub1, addm1, addm2, subn, cl0, cl1, ncl, ginT, gin0, gin1, ↓reduceIte, if_true, if_false, Nat.add_sub_cancel, obe, ↓gle, true_or, or_true, ↓(bnd f1), ↓(bnd e1), ↓(bnd f2), ↓(bnd e2), ↓(bnd e3), ↓(bnd e4'), ↓(bnd m1)]
    · unfold mX6_turningFound mX6_turningFound_b0 mX6_turningFound_b10 mX6_turningFound_b28 mX6_turningFound_b40 mX6_turningFound_b52 mX6_turningFound_b65
      simp (disch := omega) only [lq2, lq3, lq4, lq5, lq6, lq7, lq8, lq9, lq10, lq11, lq40, lq59, lq60, lq61, lq100, lq500, lq2600, lq5208, lq1000000, ltT, ltF, leT, leF, eqT, eqF, lt0F, le0F, le0T, ge0T, eq0T, eq0F, eqm1F, ten0, m1lt0, eq_self, nI_add, nI_1, sub1, addm1, addm2, subn, cl0, cl1, ncl, ginT, gin0, gin1, ↓reduceIte, if_true, if_false, Nat.add_sub_cancel, obe, ↓gle, true_or, or_true, ↓(bnd p1), ↓(bnd r1), ↓(bnd p2), ↓(bnd r2), ↓(bnd r3), ↓(bnd r4'), ↓(bnd j1), Nat.add_zero]
end CT
