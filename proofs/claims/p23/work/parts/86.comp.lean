/-! WHAT THE TYPES OF PARTS PUT TOGETHER ARE: turnings, choices, axles, ends -/
section GC
variable {F : Nat → Nat → Int32} {x a d g : Nat} {rx ra rd : (Nat × Nat) ⊕ Rw}
theorem gpa {F : Nat → Nat → Int32} {cp p w : Nat} {A : gM} {v : Int32} (hp : p < 40) (hw : w < 6) (pt : PTr A (p + 1) F) (h : F p w = v) : mX6_pa cp A (nI p) (nI w) = some (A, v) := by
  rw [pa_w (by omega) hw, pt p (by omega) w hw, h]
theorem PTr_le {A : gM} {n m : Nat} (h : n ≤ m) (pt : PTr A m F) : PTr A n F := fun p hp w hw => pt p (by omega) w hw
/-- a row of three codes -/
theorem num_3 {R : Rw} (h : num0 R = [2, 10, 10]) : ∃ v, 10 ≤ v ∧ R = 2 :: ([v] ++ [v]) := by
  have h0 : num0 [2, 10, 10] = [2, 10, 10] := by decide
  obtain ⟨ρ, r1, r2, r3, r4⟩ := num0_ren (a := [2, 10, 10]) (b := R) (by rw [h0, h])
  exact ⟨ρ 10, (r2 10 (by simp) (by omega)).1, by rw [r4]; show [ρ 2, ρ 10, ρ 10] = _; rw [r1 2 (by omega)]; rfl⟩
theorem num_1 {R : Rw} (h : num0 R = [1]) : R = [1] := by
  have h0 : num0 [1] = [1] := by decide
  obtain ⟨ρ, r1, r2, r3, r4⟩ := num0_ren (a := [1]) (b := R) (by rw [h0, h])
  rw [r4]; show [ρ 1] = [1]; rw [r1 1 (by omega)]
/-- two nodes of the ghost made the same, as U says -/
theorem gjoin {cp u a b : Nat} {part : Int32} {A : gM} {T : Nat → Rw} {ch : Nat → Nat} (w : rS A cp u T ch) (ha : a < u) (hb : b < u) (la : (T a).length ≤ 200) (lb : (T b).length ≤ 200) : ∃ f res, U f (T a) (T b) = some res ∧ ∀ bs, res = .inr bs → ∃ A' ch', mX6_join cp 1250 A (nI a) (nI b) part = some (A', 1) ∧ rS A' cp u (fun n => apL bs (T n)) ch' ∧ offJ A A' := by
  obtain ⟨P1, S1, a1, a2, a3, a4⟩ := reach_ok w a ha
  obtain ⟨P2, S2, b1, b2, b3, b4⟩ := reach_ok w b hb
  have hlen : (S1 ++ S2).length = S1.length + S2.length := List.length_append
  obtain ⟨f, res, hU, hc⟩ := join_ok (part := part) (fun n hn => hn.elim (a4 n) (b4 n)) 1250 A T ch a b 0 w (reg_or a2 b2) (Or.inl a1) (Or.inr b1) abv_0 abv_0 (by omega)
  refine ⟨f, res, hU, fun bs e => ?_⟩
  rcases hc with ⟨n, A', e1, -⟩ | ⟨bs', A', ch', e1, j, s, -, o, -⟩
  · rw [e1] at e; cases e
  · rw [e1] at e; cases e
    exact ⟨A', ch', j, s, o⟩
theorem gle8 {cp u : Nat} {A : gM} {T : Nat → Rw} {ch : Nat → Nat} (w : rS A cp u T ch) : u ≤ 8000 := by
  have := w.2.2.1; have := okc_le w.2.1; omega
/-- turned by it, a wheel from a variable to itself gives its type back -/
theorem G_turn (hx : x < 40) (ha : a < x) (hd : d < x) (F0 : F x 0 = nI 4) (F1 : F x 1 = nI a) (F2 : F x 2 = nI d) (hA : Rs F a (.inr [2, 10, 10])) (hD : Rs F d rd) (hX : Rs F x rx) (oD : resOK rd) (oX : resOK rx) : rx = rd := by
  have p0 : mX6_pa 500 (gh F) (nI x) 0 = some (gh F, nI 4) := by have := gpa (cp := 500) (w := 0) hx (by omega) (gh_p (np := x + 1)) F0; rw [nI0] at this; exact this
  have p1 : mX6_pa 500 (gh F) (nI x) 1 = some (gh F, nI a) := by have := gpa (cp := 500) (w := 1) hx (by omega) (gh_p (np := x + 1)) F1; rw [← one_nI] at this; exact this
  rcases Rs_use hA (fr := 44) (by omega) gh_w gh_9 gh_p (by omega) with ⟨f, q, B, cp1, k1, n1, e, -⟩ | ⟨r, u1, T1, ch1, r1, B1, cp1, k1, n1, e, f1, w1, u0, u3, r0, ru, num1, len1, old1, cod1, h91, oR1, -⟩
  · cases e
  · cases e
    obtain ⟨v, hv, eT1⟩ := num_3 num1
    have hv1 : v < 10 + u1 := by
      rcases cod1 v (by rw [eT1]; simp) with z | z <;> omega
    have pt1 : PTr B1 (x + 1) F := PTr_off (ze := 0) (ar := 0) oR1 gh_p
    have p2 : mX6_pa cp1 B1 (nI x) 2 = some (B1, nI d) := by have := gpa (cp := cp1) (w := 2) hx (by omega) pt1 F2; rw [← lq2] at this; exact this
    have l1 := gle8 w1.1
    rcases Rs_use hD (fr := 44) (by omega) w1 h91 (PTr_le (by omega) pt1) (by omega) with ⟨f, q, B2, cp2, k2, n2, e, f2, g1, g2⟩ | ⟨r, u2, T2, ch2, r2, B2, cp2, k2, n2, e, f2, w2, v0, v3, s0, su, num2, len2, old2, cod2, h92, oR2, -⟩
    · rw [e]
      have b := oD.1 f q e
      refine Rs_det1 (cp' := cp2) hX oX hx (by omega) (by omega) (sf_turn p0 ⟨0 + k1 + k2, 0 + n1 + n2, ?_⟩) g1 g2
      unfold mX6_turningFound mX6_turningFound_b0 mX6_turningFound_b10 mX6_turningFound_b28
      simp (disch := omega) only [lq2, lq3, lq4, lq5, lq6, lq7, lq8, lq9, lq10, lq11, lq40, lq59, lq60, lq61, lq100, lq500, lq2600, lq5208, lq1000000, ltT, ltF, leT, leF, eqT, eqF, lt0F, le0F, le0T, ge0T, eq0T, eq0F, eqm1F, ten0, m1lt0, eq_self, nI_add, nI_1, sub1, addm1, addm2, subn, cl0, cl1, ncl, ginT, gin0, gin1, ↓reduceIte, if_true, if_false, Nat.add_sub_cancel, obe, ↓gle, true_or, or_true, ↓(bnd p1), ↓(bnd f1), ↓(bnd p2), ↓(bnd f2)]
    · have l2 := gle8 w2.1
      obtain ⟨B3, cp3, k3, n3, c1, c2, c3, c4, -, -, -, -⟩ := variable_ok (N := 0) (rW_zero w2) (by omega)
      obtain ⟨B4, cp4, k4, n4, d1, d2, d3, d4, -, -⟩ := pairN_ok (N := 0) (c := 2) (i := r2) (j := u2) c3 (by omega) (Or.inl rfl) ⟨by omega, by omega⟩ ⟨by omega, by omega⟩
      obtain ⟨T4, hT4⟩ : ∃ T4, T4 = at1 (at1 T2 u2 [10 + u2]) (u2 + 1) (2 :: (at1 T2 u2 [10 + u2] r2 ++ at1 T2 u2 [10 + u2] u2)) := ⟨_, rfl⟩
      rw [← hT4] at d3
      have e1 : T4 r1 = 2 :: ([v] ++ [v]) := by rw [hT4, at1_n (by omega), at1_n (by omega), old2 r1 ru, eT1]
      have e2 : T4 (u2 + 1) = 2 :: (T2 r2 ++ [10 + u2]) := by rw [hT4, at1_s, at1_n (by omega), at1_s]
      have e3 : T4 u2 = [10 + u2] := by rw [hT4, at1_n (by omega), at1_s]
      have hR : Ty (T2 r2) := rS_Ty w2.1 r2 su
      obtain ⟨f, res, hU, hj⟩ := gjoin (part := nI x) d3.1 (a := r1) (b := u2 + 1) (by omega) (by omega) (by rw [e1]; simp) (by rw [e2]; simp; omega)
      rw [e1, e2] at hU
      obtain ⟨bs, eb, m1, m2⟩ := U_turn hR hv (by omega) (by omega) (fun z => by rcases cod2 v z with y | y <;> omega) (fun z => by rcases cod2 _ z with y | y <;> omega) hU
      obtain ⟨B5, ch5, j1, w5, o5⟩ := hj bs eb
      have d1' : mX6_node 0 cp3 B3 2 (nI r2) (nI u2) = some (B4, (cp4, k4, n4), nI (u2 + 1)) := by rw [lq2]; exact d1
      have fin := Rs_det2 (cp' := cp4) hX oX hx (rr := u2) (sf_turn p0 ⟨0 + k1 + k2 + k3 + k4, 0 + n1 + n2 + n3 + n4, by
        unfold mX6_turningFound mX6_turningFound_b0 mX6_turningFound_b10 mX6_turningFound_b28 mX6_turningFound_b40 mX6_turningFound_b52 mX6_turningFound_b65
        simp (disch := omega) only [lq2, lq3, lq4, lq5, lq6, lq7, lq8, lq9, lq10, lq11, lq40, lq59, lq60, lq61, lq100, lq500, lq2600, lq5208, lq1000000, ltT, ltF, leT, leF, eqT, eqF, lt0F, le0F, le0T, ge0T, eq0T, eq0F, eqm1F, ten0, m1lt0, eq_self, nI_add, nI_1, sub1, addm1, addm2, subn, cl0, cl1, ncl, ginT, gin0, gin1, ↓reduceIte, if_true, if_false, Nat.add_sub_cancel, obe, ↓gle, true_or, or_true, ↓(bnd p1), ↓(bnd f1), ↓(bnd p2), ↓(bnd f2), ↓(bnd c1), ↓(bnd d1'), ↓(bnd j1)]⟩) w5 (by omega) (by show (apL bs (T4 u2)).length ≤ 200; rw [e3, m2]; omega)
      rw [fin, e]
      show (if (apL bs (T4 u2)).length ≤ 60 then Sum.inr (num0 (apL bs (T4 u2))) else _) = _
      rw [e3, m2, m1, if_pos len2, num2]
/-- a choice of it twice has its type -/
theorem G_choice (hx : x < 40) (hg : g < x) (hd : d < x) (F0 : F x 0 = nI 8) (F1 : F x 1 = nI g) (F2 : F x 2 = nI d) (F3 : F x 3 = nI d) (hG : Rs F g (.inr [1])) (hD : Rs F d rd) (hX : Rs F x rx) (oD : resOK rd) (oX : resOK rx) : rx = rd := by
  have p0 : mX6_pa 500 (gh F) (nI x) 0 = some (gh F, nI 8) := by have := gpa (cp := 500) (w := 0) hx (by omega) (gh_p (np := x + 1)) F0; rw [nI0] at this; exact this
  have p1 : mX6_pa 500 (gh F) (nI x) 1 = some (gh F, nI g) := by have := gpa (cp := 500) (w := 1) hx (by omega) (gh_p (np := x + 1)) F1; rw [← one_nI] at this; exact this
  rcases Rs_use hG (fr := 44) (by omega) gh_w gh_9 gh_p (by omega) with ⟨f, q, B, cp1, k1, n1, e, -⟩ | ⟨r, u1, T1, ch1, r1, B1, cp1, k1, n1, e, f1, w1, u0, u3, r0, ru, num1, len1, old1, cod1, h91, oR1, -⟩
  · cases e
  · cases e
    have eT1 := num_1 num1
    have l1 := gle8 w1.1
    obtain ⟨B2, cp2, k2, n2, c1, c2, c3, c4, -, -⟩ := leafN_ok (N := 0) (c := 1) (rW_zero w1) (by omega) (by omega)
    obtain ⟨T2, hT2⟩ : ∃ T2, T2 = at1 T1 u1 [1] := ⟨_, rfl⟩
    rw [← hT2] at c3
    have e1 : T2 r1 = [1] := by rw [hT2, at1_n (by omega), eT1]
    have e2 : T2 u1 = [1] := by rw [hT2, at1_s]
    obtain ⟨f0, res0, hU0, hj0⟩ := gjoin (part := nI x) c3.1 (a := r1) (b := u1) (by omega) (by omega) (by rw [e1]; simp) (by rw [e2]; simp)
    have eb0 : res0 = .inr [] := by
      obtain ⟨g0, rfl⟩ := U_pos hU0
      rcases U_cases hU0 with ⟨-, z⟩ | ⟨_, _, _, _, _, _, z, -⟩
      · exact z
      · exact absurd (by rw [e1, e2]) z
    obtain ⟨B3, ch3, j1, w3, o3⟩ := hj0 [] eb0
    have w3 : rS B3 cp2 (u1 + 1) T2 ch3 := w3
    have h93 : B3 183 9 = nI 0 := by rw [o3.1 _ _ (by omega) (by omega) (by omega), c4 _ _ (by omega) (by omega)]; exact h91
    have pt3 : PTr B3 (x + 1) F := fun p hp w hw => by rw [o3.1 _ _ (by omega) (by omega) (by omega), c4 _ _ (by omega) (by omega)]; exact (PTr_off (ze := 0) (ar := 0) oR1 gh_p : PTr B1 (x + 1) F) p hp w hw
    have rF3 : rF B3 (u1 + 1) := fun n hn => by rw [o3.1 189 _ (by omega) (by omega) (by omega)]; exact c3.2.2.1 n hn
    have W3 : rW B3 cp2 (u1 + 1) (u1 + 1) T2 ch3 := ⟨w3, fun n hn => by omega, rF3, Nat.le_refl _⟩
    have p2 : mX6_pa cp2 B3 (nI x) 2 = some (B3, nI d) := by have := gpa (cp := cp2) (w := 2) hx (by omega) pt3 F2; rw [← lq2] at this; exact this
    have l3 := gle8 w3
    have c1' : mX6_node 0 cp1 B1 1 (-1) (-1) = some (B2, (cp2, k2, n2), nI u1) := by rw [one_nI]; exact c1
    rcases Rs_use hD (fr := 44) (by omega) W3 h93 (PTr_le (by omega) pt3) (by omega) with ⟨f, q, B4, cp4, k4, n4, e, f4, g1, g2⟩ | ⟨r, u4, T4, ch4, r4, B4, cp4, k4, n4, e, f4, w4, v0, v3, s0, su, num4, len4, old4, cod4, h94, oR4, -⟩
    · rw [e]
      have b := oD.1 f q e
      refine Rs_det1 (cp' := cp4) hX oX hx (by omega) (by omega) (sf_choice p0 ⟨0 + k1 + k2 + k4, 0 + n1 + n2 + n4, ?_⟩) g1 g2
      unfold mX6_choiceFound mX6_choiceFound_b0 mX6_choiceFound_b10 mX6_choiceFound_b25 mX6_choiceFound_b32 mX6_choiceFound_b44 mX6_choiceFound_b62 mX6_choiceFound_b85 mX6_choiceFound_b86
      simp (disch := omega) only [lq2, lq3, lq4, lq5, lq6, lq7, lq8, lq9, lq10, lq11, lq40, lq59, lq60, lq61, lq100, lq500, lq2600, lq5208, lq1000000, ltT, ltF, leT, leF, eqT, eqF, lt0F, le0F, le0T, ge0T, eq0T, eq0F, eqm1F, ten0, m1lt0, eq_self, nI_add, nI_1, sub1, addm1, addm2, subn, cl0, cl1, ncl, ginT, gin0, gin1, ↓reduceIte, if_true, if_false, Nat.add_sub_cancel, obe, ↓gle, true_or, or_true, ↓(bnd p1), ↓(bnd f1), ↓(bnd c1'), ↓(bnd j1), ↓(bnd p2), ↓(bnd f4), Nat.add_zero]
    · have l4 := gle8 w4.1
      have pt4 : PTr B4 (x + 1) F := PTr_off (ze := 0) (ar := 0) oR4 pt3
      have p3 : mX6_pa cp4 B4 (nI x) 3 = some (B4, nI d) := by have := gpa (cp := cp4) (w := 3) hx (by omega) pt4 F3; rw [← lq3] at this; exact this
      rcases Rs_use hD (fr := 44) (by omega) w4 h94 (PTr_le (by omega) pt4) (by omega) with ⟨f, q, B5, cp5, k5, n5, e', -⟩ | ⟨r', u5, T5, ch5, r5, B5, cp5, k5, n5, e', f5, w5, x0, x3, y0, yu, num5, len5, old5, cod5, h95, oR5, -⟩
      · rw [e] at e'; cases e'
      · rw [e] at e'; cases e'
        have l5 := gle8 w5.1
        have eq4 : T5 r4 = T4 r4 := old5 r4 su
        obtain ⟨ρ, z1, z2, z3, z4⟩ := num0_ren (a := T5 r4) (b := T5 r5) (by rw [eq4, num4, num5])
        obtain ⟨f, res, hU, hj⟩ := gjoin (part := nI x) w5.1 (a := r4) (b := r5) (by omega) yu (by rw [eq4]; omega) (by omega)
        have hSh : ∀ c ∈ T5 r4, c < 10 ∨ c < 10 + u4 := fun c hc => by
          rw [eq4] at hc
          rcases cod4 c hc with y | y <;> omega
        have hId : rn id (T5 r4) = T5 r4 := List.map_id _
        rw [z4, ← hId] at hU
        rw [hId] at hU
        have hU' : U f (rn id (T5 r4)) (rn ρ (T5 r4)) = some res := by rw [hId]; exact hU
        obtain ⟨bs, β, eb, m1, m2, m3⟩ := U_ren (ρ := ρ) (S := fun c => c ∈ T5 r4) z1 (fun c hc h10 => (z2 c hc h10).1) (fun p q hp hq h10 h10' z => by
          have hρ := (z2 p hp h10).2
          rw [z] at hρ
          have := hSh q hq
          rcases cod5 q hρ with y | y <;> omega) f (T5 r4) id res (rS_Ty w5.1 r4 (by omega)) (fun _ h => h) (fun _ _ => Or.inl rfl) hU'
        obtain ⟨B6, ch6, j2, w6, o6⟩ := hj bs eb
        have eR : apL bs (T5 r4) = T5 r5 := by
          rw [m1, z4]
          exact List.map_congr_left fun c hc => m3 c hc
        have fin := Rs_det2 (cp' := cp5) hX oX hx (rr := r4) (sf_choice p0 ⟨0 + k1 + k2 + k4 + k5, 0 + n1 + n2 + n4 + n5, by
          unfold mX6_choiceFound mX6_choiceFound_b0 mX6_choiceFound_b10 mX6_choiceFound_b25 mX6_choiceFound_b32 mX6_choiceFound_b44 mX6_choiceFound_b62 mX6_choiceFound_b85 mX6_choiceFound_b86
          simp (disch := omega) only [lq2, lq3, lq4, lq5, lq6, lq7, lq8, lq9, lq10, lq11, lq40, lq59, lq60, lq61, lq100, lq500, lq2600, lq5208, lq1000000, ltT, ltF, leT, leF, eqT, eqF, lt0F, le0F, le0T, ge0T, eq0T, eq0F, eqm1F, ten0, m1lt0, eq_self, nI_add, nI_1, sub1, addm1, addm2, subn, cl0, cl1, ncl, ginT, gin0, gin1, ↓reduceIte, if_true, if_false, Nat.add_sub_cancel, obe, ↓gle, true_or, or_true, ↓(bnd p1), ↓(bnd f1), ↓(bnd c1'), ↓(bnd j1), ↓(bnd p2), ↓(bnd f4), ↓(bnd p3), ↓(bnd f5), ↓(bnd j2), Nat.add_zero]⟩) w6 (by omega) (by show (apL bs (T5 r4)).length ≤ 200; rw [eR]; omega)
        rw [fin, e]
        show (if (apL bs (T5 r4)).length ≤ 60 then Sum.inr (num0 (apL bs (T5 r4))) else _) = _
        rw [eR, if_pos len5, num5]
/-- an axle has both types, side by side -/
theorem G_axle (hx : x < 40) (ha : a < x) (hd : d < x) (F0 : F x 0 = nI 6) (F1 : F x 1 = nI a) (F2 : F x 2 = nI d) (hA : Rs F a ra) (hD : Rs F d rd) (hX : Rs F x rx) (oA : resOK ra) (oD : resOK rd) (oX : resOK rx) :
    (∀ e, ra = .inl e → rx = .inl e) ∧ (∀ r e, ra = .inr r → rd = .inl e → rx = .inl e) ∧ ∀ r r', ra = .inr r → rd = .inr r' → rx = if 1 + r.length + r'.length ≤ 60 then .inr (3 :: (r ++ shf (vrs r) r')) else .inl (4, x) := by
  have p0 : mX6_pa 500 (gh F) (nI x) 0 = some (gh F, nI 6) := by have := gpa (cp := 500) (w := 0) hx (by omega) (gh_p (np := x + 1)) F0; rw [nI0] at this; exact this
  have p1 : mX6_pa 500 (gh F) (nI x) 1 = some (gh F, nI a) := by have := gpa (cp := 500) (w := 1) hx (by omega) (gh_p (np := x + 1)) F1; rw [← one_nI] at this; exact this
  rcases Rs_use hA (fr := 44) (by omega) gh_w gh_9 gh_p (by omega) with ⟨f, q, B1, cp1, k1, n1, e, f1, g1, g2⟩ | ⟨r, u1, T1, ch1, r1, B1, cp1, k1, n1, e, f1, w1, u0, u3, r0, ru, num1, len1, old1, cod1, h91, oR1, -⟩
  · have b := oA.1 f q e
    have fin := Rs_det1 (cp' := cp1) hX oX hx (f := f) (q := q) (by omega) (by omega) (sf_axle p0 ⟨0 + k1, 0 + n1, by
      unfold mX6_axleFound mX6_axleFound_b0 mX6_axleFound_b10
      simp (disch := omega) only [lq2, lq3, lq4, lq5, lq6, lq7, lq8, lq9, lq10, lq11, lq40, lq59, lq60, lq61, lq100, lq500, lq2600, lq5208, lq1000000, ltT, ltF, leT, leF, eqT, eqF, lt0F, le0F, le0T, ge0T, eq0T, eq0F, eqm1F, ten0, m1lt0, eq_self, nI_add, nI_1, sub1, addm1, addm2, subn, cl0, cl1, ncl, ginT, gin0, gin1, ↓reduceIte, if_true, if_false, Nat.add_sub_cancel, obe, ↓gle, true_or, or_true, ↓(bnd p1), ↓(bnd f1)]⟩) g1 g2
    rw [fin]
    exact ⟨fun e' h => (by rw [e] at h; exact h), fun r e' h _ => (by rw [e] at h; cases h), fun r r' h _ => (by rw [e] at h; cases h)⟩
  · have pt1 : PTr B1 (x + 1) F := PTr_off (ze := 0) (ar := 0) oR1 gh_p
    have p2 : mX6_pa cp1 B1 (nI x) 2 = some (B1, nI d) := by have := gpa (cp := cp1) (w := 2) hx (by omega) pt1 F2; rw [← lq2] at this; exact this
    have l1 := gle8 w1.1
    rcases Rs_use hD (fr := 44) (by omega) w1 h91 (PTr_le (by omega) pt1) (by omega) with ⟨f, q, B2, cp2, k2, n2, e2, f2, g1, g2⟩ | ⟨r', u2, T2, ch2, r2, B2, cp2, k2, n2, e2, f2, w2, v0, v3, s0, su, num2, len2, old2, cod2, h92, oR2, -⟩
    · have b := oD.1 f q e2
      have fin := Rs_det1 (cp' := cp2) hX oX hx (f := f) (q := q) (by omega) (by omega) (sf_axle p0 ⟨0 + k1 + k2, 0 + n1 + n2, by
        unfold mX6_axleFound mX6_axleFound_b0 mX6_axleFound_b10 mX6_axleFound_b28 mX6_axleFound_b45
        simp (disch := omega) only [lq2, lq3, lq4, lq5, lq6, lq7, lq8, lq9, lq10, lq11, lq40, lq59, lq60, lq61, lq100, lq500, lq2600, lq5208, lq1000000, ltT, ltF, leT, leF, eqT, eqF, lt0F, le0F, le0T, ge0T, eq0T, eq0F, eqm1F, ten0, m1lt0, eq_self, nI_add, nI_1, sub1, addm1, addm2, subn, cl0, cl1, ncl, ginT, gin0, gin1, ↓reduceIte, if_true, if_false, Nat.add_sub_cancel, obe, ↓gle, true_or, or_true, ↓(bnd p1), ↓(bnd f1), ↓(bnd p2), ↓(bnd f2)]⟩) g1 g2
      rw [fin]
      exact ⟨fun e' h => (by rw [e] at h; cases h), fun r e' _ h => (by rw [e2] at h; exact h), fun r r' _ h => (by rw [e2] at h; cases h)⟩
    · have l2 := gle8 w2.1
      obtain ⟨B4, cp4, k4, n4, d1, d2, d3, d4, -, -⟩ := pairN_ok (N := 0) (c := 3) (i := r1) (j := r2) (rW_zero w2) (by omega) (Or.inr rfl) ⟨by omega, by omega⟩ ⟨by omega, by omega⟩
      obtain ⟨T4, hT4⟩ : ∃ T4, T4 = at1 T2 u2 (3 :: (T2 r1 ++ T2 r2)) := ⟨_, rfl⟩
      rw [← hT4] at d3
      have e4 : T4 u2 = 3 :: (T1 r1 ++ T2 r2) := by rw [hT4, at1_s, old2 r1 ru]
      have d1' : mX6_node 0 cp2 B2 3 (nI r1) (nI r2) = some (B4, (cp4, k4, n4), nI u2) := by rw [lq3]; exact d1
      have fin := Rs_det2 (cp' := cp4) hX oX hx (rr := u2) (sf_axle p0 ⟨0 + k1 + k2 + k4, 0 + n1 + n2 + n4, by
        unfold mX6_axleFound mX6_axleFound_b0 mX6_axleFound_b10 mX6_axleFound_b28 mX6_axleFound_b45
        simp (disch := omega) only [lq2, lq3, lq4, lq5, lq6, lq7, lq8, lq9, lq10, lq11, lq40, lq59, lq60, lq61, lq100, lq500, lq2600, lq5208, lq1000000, ltT, ltF, leT, leF, eqT, eqF, lt0F, le0F, le0T, ge0T, eq0T, eq0F, eqm1F, ten0, m1lt0, eq_self, nI_add, nI_1, sub1, addm1, addm2, subn, cl0, cl1, ncl, ginT, gin0, gin1, ↓reduceIte, if_true, if_false, Nat.add_sub_cancel, obe, ↓gle, true_or, or_true, ↓(bnd p1), ↓(bnd f1), ↓(bnd p2), ↓(bnd f2), ↓(bnd d1')]⟩) d3.1 (by omega) (by rw [e4]; simp; omega)
      refine ⟨fun e' h => (by rw [e] at h; cases h), fun r e' _ h => (by rw [e2] at h; cases h), fun R R' h h' => ?_⟩
      rw [e] at h; cases h
      rw [e2] at h'; cases h'
      have np := num0_pair (c := 3) (a := T1 r1) (b := T2 r2) (by omega) fun z hz h10 hz1 => by
        rcases cod1 z hz1 with y | y
        · omega
        · rcases cod2 z hz with y2 | y2 <;> omega
      have hl : (3 :: (T1 r1 ++ T2 r2)).length = 1 + r.length + r'.length := by
        rw [List.length_cons, List.length_append, ← num1, ← num2, num0_len, num0_len]; omega
      rw [fin, e4, hl, np.1, num1, num2, ← vrs_num0, num1]
/-- the codes of numbers are 10 and more, or below -/
theorem num_dis : ∀ (r : Rw) (s : List Nat), (∀ c ∈ num kN s r, c < 10 ∨ 10 + s.length ≤ c) → ∀ y ∈ r, 10 ≤ y → y ∉ s := fun r s h y hy h10 hs => by
  obtain ⟨i, hi⟩ := List.mem_iff_getElem?.mp hy
  obtain ⟨t, ht⟩ := seats_pre (keep := kN) r s
  have e := num_idx r s t ht
  have hm : (if y < 10 then y else 10 + (seatsOf kN s r).idxOf y) ∈ num kN s r := by
    rw [e]; exact List.mem_map.mpr ⟨y, hy, rfl⟩
  rw [if_neg (by omega), ht, List.idxOf_append, if_pos hs] at hm
  have := List.idxOf_lt_length_of_mem hs
  rcases h _ hm with z | z <;> omega
/-- an axle's ends -/
theorem G_end {l : Nat} {r r' : Rw} (hx : x < 40) (ha : a < x) (hl : l ≤ 1) (F0 : F x 0 = nI 7) (F1 : F x 1 = nI a) (F4 : F x 4 = nI l) (hA : Rs F a ra) (hX : Rs F x rx) (oA : resOK ra) (oX : resOK rx) (hr : Ty r) (hr' : Ty r') :
    (∀ e, ra = .inl e → rx = .inl e) ∧ (ra = .inr (3 :: (r ++ shf (vrs r) r')) → (∃ X, num0 X = r) → (∃ Y, num0 Y = r') → rx = .inr (if l = 0 then r else r')) := by
  have p0 : mX6_pa 500 (gh F) (nI x) 0 = some (gh F, nI 7) := by have := gpa (cp := 500) (w := 0) hx (by omega) (gh_p (np := x + 1)) F0; rw [nI0] at this; exact this
  have p1 : mX6_pa 500 (gh F) (nI x) 1 = some (gh F, nI a) := by have := gpa (cp := 500) (w := 1) hx (by omega) (gh_p (np := x + 1)) F1; rw [← one_nI] at this; exact this
  rcases Rs_use hA (fr := 44) (by omega) gh_w gh_9 gh_p (by omega) with ⟨f, q, B1, cp1, k1, n1, e, f1, g1, g2⟩ | ⟨R, u1, T1, ch1, r1, B1, cp1, k1, n1, e, f1, w1, u0, u3, r0, ru, num1, len1, old1, cod1, h91, oR1, -⟩
  · have b := oA.1 f q e
    have fin := Rs_det1 (cp' := cp1) hX oX hx (f := f) (q := q) (by omega) (by omega) (sf_end p0 ⟨0 + k1, 0 + n1, by
      unfold mX6_endFound mX6_endFound_b0 mX6_endFound_b10
      simp (disch := omega) only [lq2, lq3, lq4, lq5, lq6, lq7, lq8, lq9, lq10, lq11, lq40, lq59, lq60, lq61, lq100, lq500, lq2600, lq5208, lq1000000, ltT, ltF, leT, leF, eqT, eqF, lt0F, le0F, le0T, ge0T, eq0T, eq0F, eqm1F, ten0, m1lt0, eq_self, nI_add, nI_1, sub1, addm1, addm2, subn, cl0, cl1, ncl, ginT, gin0, gin1, ↓reduceIte, if_true, if_false, Nat.add_sub_cancel, obe, ↓gle, true_or, or_true, ↓(bnd p1), ↓(bnd f1)]⟩) g1 g2
    rw [fin]
    exact ⟨fun e' h => (by rw [e] at h; exact h), fun h => (by rw [e] at h; cases h)⟩
  · refine ⟨fun e' h => (by rw [e] at h; cases h), fun h ⟨X0, hX0⟩ ⟨Y0, hY0⟩ => ?_⟩
    rw [e] at h
    have hR : R = 3 :: (r ++ shf (vrs r) r') := Sum.inr.inj h
    rw [hR] at num1
    -- the two types of the axle
    obtain ⟨X, Y, hX1, hY1, eXY, nX, nY⟩ : ∃ X Y, Ty X ∧ Ty Y ∧ T1 r1 = 3 :: (X ++ Y) ∧ num0 X = r ∧ num0 Y = r' := by
      rcases Ty_cases (rS_Ty w1.1 r1 ru) with ⟨c, hc, ec⟩ | ⟨c, X, Y, hc, tX, tY, ec⟩
      · have hl1 : (num0 (T1 r1)).length = 1 := by rw [num0_len, ec]; rfl
        have hpos : 0 < r.length := by
          have := Ty_ne hr
          cases r with
          | nil => exact absurd rfl this
          | cons c r => simp
        rw [num1, List.length_cons, List.length_append] at hl1
        omega
      · have hp := ar_low hc
        have e0 : num0 (T1 r1) = c :: (num0 X ++ num kN (sts X) Y) := by
          rw [ec]
          show num kN [] (c :: (X ++ Y)) = _
          rw [num_cons, if_pos (Or.inl (by omega)), num_app]; rfl
        rw [num1] at e0
        obtain ⟨e1, e2⟩ := List.cons.inj e0
        have tX' : Ty (num0 X) := num0_Ty tX
        obtain ⟨i1, i2⟩ := Ty_inj hr tX' e2
        have hsX : (sts X).length = vrs r := by rw [← vrs_num0, ← i1]
        have dis := num_dis Y (sts X) fun c hc' => by
          rw [← i2] at hc'
          obtain ⟨z, hz, rfl⟩ := List.mem_map.mp hc'
          by_cases q : z < 10
          · rw [if_pos q]; exact Or.inl q
          · rw [if_neg q, hsX]; exact Or.inr (by omega)
        have dis2 : ∀ y ∈ Y, y ∉ sts X := fun y hy hy2 => dis y hy (sts_in hy2).2 hy2
        have e3 := (num_shf Y (sts X) [] dis2).1
        rw [List.append_nil, hsX, ← i2] at e3
        have e4 : r' = num0 Y := shf_inj e3 fun c _ => by omega
        exact ⟨X, Y, tX, tY, by rw [ec, ← e1], i1.symm, e4.symm⟩
    have l1 := gle8 w1.1
    obtain ⟨B2, cp2, k2, n2, c1, c2, c3, c4, -, -, -, -⟩ := variable_ok (N := 0) (rW_zero w1) (by omega)
    obtain ⟨B3, cp3, k3, n3, b1, b2, b3, b4, -, -, -, -⟩ := variable_ok (N := 0) c3 (by omega)
    obtain ⟨B4, cp4, k4, n4, d1, d2, d3, d4, -, -⟩ := pairN_ok (N := 0) (c := 3) (i := u1) (j := u1 + 1) b3 (by omega) (Or.inr rfl) ⟨by omega, by omega⟩ ⟨by omega, by omega⟩
    obtain ⟨T3, hT3⟩ : ∃ T3, T3 = at1 (at1 T1 u1 [10 + u1]) (u1 + 1) [10 + (u1 + 1)] := ⟨_, rfl⟩
    rw [← hT3] at d3
    obtain ⟨T4, hT4⟩ : ∃ T4, T4 = at1 T3 (u1 + 1 + 1) (3 :: (T3 u1 ++ T3 (u1 + 1))) := ⟨_, rfl⟩
    rw [← hT4] at d3
    have a1 : T3 u1 = [10 + u1] := by rw [hT3, at1_n (by omega), at1_s]
    have a2 : T3 (u1 + 1) = [10 + (u1 + 1)] := by rw [hT3, at1_s]
    have e1 : T4 r1 = 3 :: (X ++ Y) := by rw [hT4, at1_n (by omega), hT3, at1_n (by omega), at1_n (by omega), eXY]
    have e2 : T4 (u1 + 1 + 1) = 3 :: ([10 + u1] ++ [10 + (u1 + 1)]) := by rw [hT4, at1_s, a1, a2]
    have e3 : T4 u1 = [10 + u1] := by rw [hT4, at1_n (by omega), a1]
    have e5 : T4 (u1 + 1) = [10 + (u1 + 1)] := by rw [hT4, at1_n (by omega), a2]
    have no : ∀ z, 10 + u1 ≤ z → z ∉ X ∧ z ∉ Y := fun z hz => by
      have : ∀ y ∈ T1 r1, y < 10 + u1 := fun y hy => by rcases cod1 y hy with w | w <;> omega
      rw [eXY] at this
      exact ⟨fun w => by have := this z (List.mem_cons_of_mem _ (List.mem_append.mpr (Or.inl w))); omega, fun w => by have := this z (List.mem_cons_of_mem _ (List.mem_append.mpr (Or.inr w))); omega⟩
    have lXY : X.length + Y.length ≤ 59 := by
      have := len1
      rw [eXY] at this
      simp at this
      omega
    obtain ⟨f, res, hU, hj⟩ := gjoin (part := nI x) d3.1 (a := r1) (b := u1 + 1 + 1) (by omega) (by omega) (by rw [e1]; simp; omega) (by rw [e2]; simp)
    rw [e1, e2] at hU
    obtain ⟨bs, eb, ⟨m1, m2⟩, m3, m4⟩ := U_end hX1 hY1 (by omega) (by omega) (by omega) (no _ (by omega)).1 (no _ (by omega)).1 (no _ (by omega)).2 (no _ (by omega)).2 hU
    obtain ⟨B5, ch5, j1, w5, o5⟩ := hj bs eb
    have c1' := c1
    have d1' : mX6_node 0 cp3 B3 3 (nI u1) (nI (u1 + 1)) = some (B4, (cp4, k4, n4), nI (u1 + 1 + 1)) := by rw [lq3]; exact d1
    have pt1 : PTr B1 (x + 1) F := PTr_off (ze := 0) (ar := 0) oR1 gh_p
    have pt5 : PTr B5 (x + 1) F := fun p hp w hw => by
      rw [o5.1 _ _ (by omega) (by omega) (by omega), d4 _ _ (by omega) (by omega), b4 _ _ (by omega) (by omega), c4 _ _ (by omega) (by omega)]
      exact pt1 p hp w hw
    have p4 : mX6_pa cp4 B5 (nI x) 4 = some (B5, nI l) := by have := gpa (cp := cp4) (w := 4) hx (by omega) pt5 F4; rw [← lq4] at this; exact this
    have hl01 : l = 0 ∨ l = 1 := by omega
    rcases hl01 with rfl | rfl
    · rw [nI0] at p4
      have fin := Rs_det2 (cp' := cp4) hX oX hx (rr := u1) (sf_end p0 ⟨0 + k1 + k2 + k3 + k4, 0 + n1 + n2 + n3 + n4, by
        unfold mX6_endFound mX6_endFound_b0 mX6_endFound_b10 mX6_endFound_b22 mX6_endFound_b27 mX6_endFound_b39 mX6_endFound_b63
        simp (disch := omega) only [lq2, lq3, lq4, lq5, lq6, lq7, lq8, lq9, lq10, lq11, lq40, lq59, lq60, lq61, lq100, lq500, lq2600, lq5208, lq1000000, ltT, ltF, leT, leF, eqT, eqF, lt0F, le0F, le0T, ge0T, eq0T, eq0F, eqm1F, ten0, m1lt0, eq_self, nI_add, nI_1, sub1, addm1, addm2, subn, cl0, cl1, ncl, ginT, gin0, gin1, ↓reduceIte, if_true, if_false, Nat.add_sub_cancel, obe, ↓gle, true_or, or_true, ↓(bnd p1), ↓(bnd f1), ↓(bnd c1), ↓(bnd b1), ↓(bnd d1'), ↓(bnd j1), ↓(bnd p4), Nat.add_zero]⟩) w5 (by omega) (by show (apL bs (T4 u1)).length ≤ 200; rw [e3, m2]; omega)
      rw [fin, if_pos (show (0 : Nat) = 0 from rfl)]
      show (if (apL bs (T4 u1)).length ≤ 60 then Sum.inr (num0 (apL bs (T4 u1))) else _) = _
      rw [e3, m2, m1, if_pos (by omega), nX]
    · rw [← one_nI] at p4
      have fin := Rs_det2 (cp' := cp4) hX oX hx (rr := u1 + 1) (sf_end p0 ⟨0 + k1 + k2 + k3 + k4, 0 + n1 + n2 + n3 + n4, by
        unfold mX6_endFound mX6_endFound_b0 mX6_endFound_b10 mX6_endFound_b22 mX6_endFound_b27 mX6_endFound_b39 mX6_endFound_b63
        simp (disch := omega) only [lq2, lq3, lq4, lq5, lq6, lq7, lq8, lq9, lq10, lq11, lq40, lq59, lq60, lq61, lq100, lq500, lq2600, lq5208, lq1000000, ltT, ltF, leT, leF, eqT, eqF, lt0F, le0F, le0T, ge0T, eq0T, eq0F, eqm1F, ten0, m1lt0, eq_self, nI_add, nI_1, sub1, addm1, addm2, subn, cl0, cl1, ncl, ginT, gin0, gin1, ↓reduceIte, if_true, if_false, Nat.add_sub_cancel, obe, ↓gle, true_or, or_true, ↓(bnd p1), ↓(bnd f1), ↓(bnd c1), ↓(bnd b1), ↓(bnd d1'), ↓(bnd j1), ↓(bnd p4), Nat.add_zero]⟩) w5 (by omega) (by show (apL bs (T4 (u1 + 1))).length ≤ 200; rw [e5, m4]; omega)
      rw [fin, if_neg (show ¬ ((1 : Nat) = 0) by omega)]
      show (if (apL bs (T4 (u1 + 1))).length ≤ 60 then Sum.inr (num0 (apL bs (T4 (u1 + 1)))) else _) = _
      rw [e5, m4, m3, if_pos (by omega), nY]
end GC
