/-! WHAT THE TYPES OF PARTS PUT TOGETHER ARE: a flag, wheels, tellings -/
section GN
variable {F : Nat → Nat → Int32} {x a d g l : Nat} {rx ra rd : (Nat × Nat) ⊕ Rw}
theorem G_flag (hx : x < 40) (F0 : F x 0 = nI 1) (hX : Rs F x rx) (oX : resOK rx) : rx = .inr [1] := by
  have p0 : mX6_pa 500 (gh F) (nI x) 0 = some (gh F, nI 1) := by have := gpa (cp := 500) (w := 0) hx (by omega) (gh_p (np := x + 1)) F0; rw [nI0] at this; exact this
  obtain ⟨B2, cp2, k2, n2, c1, c2, c3, c4, -, -⟩ := leafN_ok (N := 0) (c := 1) (gh_w (F := F)) (by omega) (by omega)
  have e : at1 (fun _ : Nat => ([] : Rw)) 0 [1] 0 = [1] := at1_s
  have fin := Rs_det2 (cp' := cp2) hX oX hx (rr := 0) (sf_flag p0 ⟨k2, n2, c1⟩) c3.1 (by omega) (by rw [e]; simp)
  rw [e, if_pos (by simp)] at fin
  rw [fin]
  have : num0 [1] = [1] := by decide
  rw [this]
theorem name_one {N cp cp1 u t p kk nn : Nat} {A A1 : gM} {r : Int32} (hl : l ≤ 9) (h9 : A 183 9 = nI 1) (h0 : A 190 0 = nI l) (h1 : A 191 0 = nI t) (h3 : A 183 3 = nI u) (hpa : mX6_pa cp A (nI p) 4 = some (A, nI l)) (hu : mX6_used N 1250 cp A (nI t) (nI u) = some (A1, (cp1, kk, nn), r)) : ∃ k n, mX6_nameFound N cp A (nI p) = some (A1, (cp1, k, n), r) := by
  have hL := (name_L (N := N) (cp := cp) (k0 := 0) (n0 := 0) (lb := fun _ => l) (ar := 1) hpa hl (by omega) (fun k hk => by rw [show k = 0 by omega]; exact ⟨h0, hl⟩) h3 gF 1 (Nat.le_refl _) (by unfold gF; omega)).2 0 t A1 cp1 kk nn r (by unfold lastK; exact if_pos rfl) h1 hu
  refine ⟨0 + kk, 0 + nn, ?_⟩
  unfold mX6_nameFound mX6_nameFound_b0
  rw [gle, h9, Int32.sub_eq_add_neg]
  exact hL
theorem rW_ps {A : gM} {cp b u ar : Nat} {T : Nat → Rw} {ch : Nat → Nat} {y z : Int32} (h : rW A cp b u T ch) : rW (psR A ar y z) cp b u T ch := rW_off (fun a x q => psR_off (by omega) (by omega) (by omega)) h
theorem rW_pop {A : gM} {cp b u : Nat} {T : Nat → Rw} {ch : Nat → Nat} {v : Int32} (h : rW A cp b u T ch) : rW (g_up A 183 9 v) cp b u T ch := rW_off (fun a x q => by rw [up_get, if_neg (by omega)]) h
theorem ps_0 {A : gM} {y z : Int32} : psR A 0 y z 183 9 = nI 1 ∧ psR A 0 y z 190 0 = y ∧ psR A 0 y z 191 0 = z := by
  unfold psR
  exact ⟨by rw [up_s], by rw [up_c (by omega), up_c (by omega), up_s], by rw [up_c (by omega), up_s]⟩
/-- a wheel of a name around that name: from a variable to itself -/
theorem G_same (hx : x < 40) (ha : a < x) (hl : l ≤ 9) (F0 : F x 0 = nI 3) (F1 : F x 1 = nI a) (F4 : F x 4 = nI l) (A0 : F a 0 = nI 2) (A4 : F a 4 = nI l) (hX : Rs F x rx) (oX : resOK rx) : rx = .inr [2, 10, 10] := by
  have p0 : mX6_pa 500 (gh F) (nI x) 0 = some (gh F, nI 3) := by have := gpa (cp := 500) (w := 0) hx (by omega) (gh_p (np := x + 1)) F0; rw [nI0] at this; exact this
  obtain ⟨B1, cp1, k1, n1, c1, c2, c3, c4, -, c6, c7, c8⟩ := variable_ok (N := 0) (gh_w (F := F)) (by omega)
  have e1 : at1 (fun _ : Nat => ([] : Rw)) 0 [10 + 0] 0 = [10] := at1_s
  have pt1 : PTr B1 (x + 1) F := fun p hp w hw => by rw [c4 _ _ (by omega) (by omega)]; exact gh_p (np := x + 1) p hp w hw
  have h91 : B1 183 9 = nI 0 := by rw [c4 _ _ (by omega) (by omega)]; exact gh_9
  have p1 : mX6_pa cp1 B1 (nI x) 1 = some (B1, nI a) := by have := gpa (cp := cp1) (w := 1) hx (by omega) pt1 F1; rw [← one_nI] at this; exact this
  have p4 : mX6_pa cp1 B1 (nI x) 4 = some (B1, nI l) := by have := gpa (cp := cp1) (w := 4) hx (by omega) pt1 F4; rw [← lq4] at this; exact this
  obtain ⟨B2, hB2⟩ : ∃ B2, B2 = psR B1 0 (nI l) (nI 0) := ⟨_, rfl⟩
  have o2 : ∀ a x, a ≠ 190 → a ≠ 191 → ¬ (a = 183 ∧ x = 9) → B2 a x = B1 a x := fun a x q1 q2 q3 => by rw [hB2]; exact psR_off (by omega) (by omega) q3
  have w2 : rW B2 cp1 0 1 (at1 (fun _ => []) 0 [10 + 0]) (at1 (fun _ => 0) 0 0) := by rw [hB2]; exact rW_ps c3
  obtain ⟨g1, g2, g3⟩ := ps_0 (A := B1) (y := nI l) (z := nI 0)
  rw [← hB2] at g1 g2 g3
  have pt2 : PTr B2 (x + 1) F := fun p hp w hw => by rw [o2 _ _ (by omega) (by omega) (by omega)]; exact pt1 p hp w hw
  have q0 : mX6_pa cp1 B2 (nI a) 0 = some (B2, nI 2) := by have := gpa (cp := cp1) (w := 0) (show a < 40 by omega) (by omega) (PTr_le (by omega) pt2) A0; rw [nI0] at this; exact this
  have q4 : mX6_pa cp1 B2 (nI a) 4 = some (B2, nI l) := by have := gpa (cp := cp1) (w := 4) (show a < 40 by omega) (by omega) (PTr_le (by omega) pt2) A4; rw [← lq4] at this; exact this
  have hcp := okc_le w2.1.2.1
  obtain ⟨m, m1, m2, m3, m4, -⟩ := now_ok w2.1 (n := 0) (by omega)
  have hm0 : m = 0 := by omega
  subst hm0
  obtain ⟨P, S, a1, a2, a3, a4⟩ := reach_ok w2.1 0 (by omega)
  have hlen1 : (at1 (fun _ : Nat => ([] : Rw)) 0 [10 + 0] 0).length = 1 := by rw [e1]; rfl
  have hno := hasOwn_ok w2.1 a2 a4 1249 0 0 a1 abv_0 (by omega)
  have ho : mX6_hasOwn cp1 1249 B2 (nI 0) = some (B2, 0) := by
    rcases hno with ⟨-, v, hv, hv2⟩ | ⟨z, -⟩
    · rw [e1, List.mem_singleton] at hv
      rw [show v = 0 by omega, o2 _ _ (by omega) (by omega) (by omega)] at hv2
      exact absurd c6 hv2
    · exact z
  have hus : mX6_used 0 1250 cp1 B2 (nI 0) (nI 1) = some (B2, (cp1, 0, 0), nI 0) := used_no (N := 0) (rec := mX6_used 0 1249) (fu := 1249) (fm := 1) m2 ho
  obtain ⟨kf, nf, ff⟩ := found_ok (N := 0) (fr := 43) (rr := 0) (sf_name q0 (name_one hl g1 g2 g3 w2.1.1 q4 hus)) w2.1 (by omega) (by omega)
  have hin := inside_k (N := 0) (recR := mX6_found 0 44) (l := nI l) (t := nI 0) (x := nI a) h91 (by omega) (by rw [← hB2]; exact ff)
  obtain ⟨B3, hB3⟩ : ∃ B3, B3 = g_up B2 183 9 (B2 183 9 - 1) := ⟨_, rfl⟩
  rw [← hB3] at hin
  have w3 : rW B3 cp1 0 1 (at1 (fun _ => []) 0 [10 + 0]) (at1 (fun _ => 0) 0 0) := by rw [hB3]; exact rW_pop w2
  obtain ⟨B4, cp4, k4, n4, d1, d2, d3, d4, -, -⟩ := pairN_ok (N := 0) (c := 2) (i := 0) (j := 0) w3 (by omega) (Or.inl rfl) ⟨by omega, by omega⟩ ⟨by omega, by omega⟩
  have d1' : mX6_node 0 cp1 B3 2 (nI 0) (nI 0) = some (B4, (cp4, k4, n4), nI 1) := by rw [lq2]; exact d1
  have e4 : at1 (at1 (fun _ : Nat => ([] : Rw)) 0 [10 + 0]) 1 (2 :: (at1 (fun _ : Nat => ([] : Rw)) 0 [10 + 0] 0 ++ at1 (fun _ : Nat => ([] : Rw)) 0 [10 + 0] 0)) 1 = [2, 10, 10] := by rw [at1_s, e1]; rfl
  have fin := Rs_det2 (cp' := cp4) hX oX hx (rr := 1) (sf_wheel p0 ⟨0 + k1 + (0 + kf) + k4, 0 + n1 + (0 + nf) + n4, by
    unfold mX6_wheelFound mX6_wheelFound_b0 mX6_wheelFound_b4 mX6_wheelFound_b22 mX6_wheelFound_b39
    simp (disch := omega) only [lq2, lq3, lq4, lq5, lq6, lq7, lq8, lq9, lq10, lq11, lq40, lq59, lq60, lq61, lq100, lq500, lq2600, lq5208, lq1000000, ltT, ltF, leT, leF, eqT, eqF, lt0F, le0F, le0T, ge0T, eq0T, eq0F, eqm1F, ten0, m1lt0, eq_self, nI_add, nI_1, sub1, addm1, addm2, subn, cl0, cl1, ncl, ginT, gin0, gin1, ↓reduceIte, if_true, if_false, Nat.add_sub_cancel, obe, ↓gle, true_or, or_true, ↓(bnd c1), ↓(bnd p1), ↓(bnd p4), ↓(bnd hin), ↓(bnd d1'), Nat.zero_add]⟩) d3.1 (by omega) (by rw [e4]; simp)
  rw [e4, if_pos (by simp)] at fin
  rw [fin]
  have : num0 [2, 10, 10] = [2, 10, 10] := by decide
  rw [this]
/-- a wheel of a name that the part doesn't ask for -/
theorem G_wheel (hx : x < 40) (hd : d < x) (hl : l ≤ 9) (F0 : F x 0 = nI 3) (F1 : F x 1 = nI d) (F4 : F x 4 = nI l) (hlab : ∀ j, j < d + 1 → F j 0 = nI 2 → F j 4 ≠ nI l) (hD : Rs F d rd) (hX : Rs F x rx) (oD : resOK rd) (oX : resOK rx) :
    (∀ e, rd = .inl e → rx = .inl e) ∧ ∀ r, rd = .inr r → rx = if r.length + 2 ≤ 60 then .inr (2 :: 10 :: shf 1 r) else .inl (4, x) := by
  have p0 : mX6_pa 500 (gh F) (nI x) 0 = some (gh F, nI 3) := by have := gpa (cp := 500) (w := 0) hx (by omega) (gh_p (np := x + 1)) F0; rw [nI0] at this; exact this
  obtain ⟨B1, cp1, k1, n1, c1, c2, c3, c4, -, c6, c7, c8⟩ := variable_ok (N := 0) (gh_w (F := F)) (by omega)
  have e1 : at1 (fun _ : Nat => ([] : Rw)) 0 [10 + 0] 0 = [10 + 0] := at1_s
  have pt1 : PTr B1 (x + 1) F := fun p hp w hw => by rw [c4 _ _ (by omega) (by omega)]; exact gh_p (np := x + 1) p hp w hw
  have h91 : B1 183 9 = nI 0 := by rw [c4 _ _ (by omega) (by omega)]; exact gh_9
  have p1 : mX6_pa cp1 B1 (nI x) 1 = some (B1, nI d) := by have := gpa (cp := cp1) (w := 1) hx (by omega) pt1 F1; rw [← one_nI] at this; exact this
  have p4 : mX6_pa cp1 B1 (nI x) 4 = some (B1, nI l) := by have := gpa (cp := cp1) (w := 4) hx (by omega) pt1 F4; rw [← lq4] at this; exact this
  obtain ⟨B2, hB2⟩ : ∃ B2, B2 = psR B1 0 (nI l) (nI 0) := ⟨_, rfl⟩
  have o2 : ∀ a x, a ≠ 190 → a ≠ 191 → ¬ (a = 183 ∧ x = 9) → B2 a x = B1 a x := fun a x q1 q2 q3 => by rw [hB2]; exact psR_off (by omega) (by omega) q3
  have w2 : rW B2 cp1 0 1 (at1 (fun _ => []) 0 [10 + 0]) (at1 (fun _ => 0) 0 0) := by rw [hB2]; exact rW_ps c3
  obtain ⟨g1, g2, g3⟩ := ps_0 (A := B1) (y := nI l) (z := nI 0)
  rw [← hB2] at g1 g2 g3
  have pt2 : PTr B2 (x + 1) F := fun p hp w hw => by rw [o2 _ _ (by omega) (by omega) (by omega)]; exact pt1 p hp w hw
  have hpr : (prs B2 0 1).length ≤ 1 := by
    unfold prs
    have := List.length_filter_le (fun n => decide (0 ≤ n ∧ (B2 185 n = nI 2 ∨ B2 185 n = nI 3))) (List.range 1)
    rw [List.length_range] at this; exact this
  obtain ⟨B3, cp3, k3, n3, c, oR, hO, hf⟩ := hD 1 l 0 0 44 cp1 B2 0 1 _ _ (by omega) w2 g1 ⟨by omega, fun j hj => ⟨hl, by rw [show j = 0 by omega]; exact g2, by rw [show j = 0 by omega]; exact g3, ⟨by omega, by omega⟩, e1, fun _ h => absurd h id⟩⟩ (Or.inr hlab) (PTr_le (by omega) pt2) (by omega) (by omega)
  rcases hf with ⟨f, q, e, hfd, y1, y2⟩ | ⟨r, u3, T3, ch3, r3, e, hfd, w3, u0, u3b, r0, ru, hnum, hlen, oldT, old8, hcod, g12, g13, g93, hpr3⟩
  · have hin := inside_k (N := 0) (recR := mX6_found 0 44) (l := nI l) (t := nI 0) (x := nI d) h91 (by omega) (by rw [← hB2]; exact hfd)
    have b := oD.1 f q e
    have fin := Rs_det1 (B := g_up B3 183 9 (B3 183 9 - 1)) (cp' := cp3) hX oX hx (f := f) (q := q) (by omega) (by omega) (sf_wheel p0 ⟨0 + k1 + (0 + k3), 0 + n1 + (0 + n3), by
      unfold mX6_wheelFound mX6_wheelFound_b0 mX6_wheelFound_b4 mX6_wheelFound_b22 mX6_wheelFound_b39
      simp (disch := omega) only [lq2, lq3, lq4, lq5, lq6, lq7, lq8, lq9, lq10, lq11, lq40, lq59, lq60, lq61, lq100, lq500, lq2600, lq5208, lq1000000, ltT, ltF, leT, leF, eqT, eqF, lt0F, le0F, le0T, ge0T, eq0T, eq0F, eqm1F, ten0, m1lt0, eq_self, nI_add, nI_1, sub1, addm1, addm2, subn, cl0, cl1, ncl, ginT, gin0, gin1, ↓reduceIte, if_true, if_false, Nat.add_sub_cancel, obe, ↓gle, true_or, or_true, ↓(bnd c1), ↓(bnd p1), ↓(bnd p4), ↓(bnd hin), Nat.zero_add]⟩) (by rw [up_get, if_neg (by omega)]; exact y1) (by rw [up_get, if_neg (by omega)]; exact y2)
    rw [fin]
    exact ⟨fun e' h => (by rw [e] at h; exact h), fun r h => (by rw [e] at h; cases h)⟩
  · have l3 := gle8 w3.1
    have hin := inside_k (N := 0) (recR := mX6_found 0 44) (l := nI l) (t := nI 0) (x := nI d) h91 (by omega) (by rw [← hB2]; exact hfd)
    obtain ⟨B4, hB4⟩ : ∃ B4, B4 = g_up B3 183 9 (B3 183 9 - 1) := ⟨_, rfl⟩
    rw [← hB4] at hin
    have w4 : rW B4 cp3 0 u3 T3 ch3 := by rw [hB4]; exact rW_pop w3
    obtain ⟨B5, cp5, k5, n5, d1, d2, d3, d4, -, -⟩ := pairN_ok (N := 0) (c := 2) (i := 0) (j := r3) w4 (by omega) (Or.inl rfl) ⟨by omega, by omega⟩ ⟨by omega, by omega⟩
    have d1' : mX6_node 0 cp3 B4 2 (nI 0) (nI r3) = some (B5, (cp5, k5, n5), nI u3) := by rw [lq2]; exact d1
    have e3 : T3 0 = [10] := by rw [oldT 0 (by omega), e1]
    have e5 : at1 T3 u3 (2 :: (T3 0 ++ T3 r3)) u3 = 2 :: ([10] ++ T3 r3) := by rw [at1_s, e3]
    have fin := Rs_det2 (cp' := cp5) hX oX hx (rr := u3) (sf_wheel p0 ⟨0 + k1 + (0 + k3) + k5, 0 + n1 + (0 + n3) + n5, by
      unfold mX6_wheelFound mX6_wheelFound_b0 mX6_wheelFound_b4 mX6_wheelFound_b22 mX6_wheelFound_b39
      simp (disch := omega) only [lq2, lq3, lq4, lq5, lq6, lq7, lq8, lq9, lq10, lq11, lq40, lq59, lq60, lq61, lq100, lq500, lq2600, lq5208, lq1000000, ltT, ltF, leT, leF, eqT, eqF, lt0F, le0F, le0T, ge0T, eq0T, eq0F, eqm1F, ten0, m1lt0, eq_self, nI_add, nI_1, sub1, addm1, addm2, subn, cl0, cl1, ncl, ginT, gin0, gin1, ↓reduceIte, if_true, if_false, Nat.add_sub_cancel, obe, ↓gle, true_or, or_true, ↓(bnd c1), ↓(bnd p1), ↓(bnd p4), ↓(bnd hin), ↓(bnd d1'), Nat.zero_add]⟩) d3.1 (by omega) (by rw [e5]; simp; omega)
    refine ⟨fun e' h => (by rw [e] at h; cases h), fun R h => ?_⟩
    rw [e] at h; cases h
    have np := num0_pair (c := 2) (a := [10]) (b := T3 r3) (by omega) fun z hz h10 hz1 => by
      rw [List.mem_singleton] at hz1
      rcases hcod z hz with y | y <;> omega
    have hl2 : (2 :: ([10] ++ T3 r3)).length = r.length + 2 := by
      rw [List.length_cons, List.length_append, ← hnum, num0_len]; simp; omega
    have s1 : (sts [10]).length = 1 := by decide
    have n10 : num0 [10] = [10] := by decide
    rw [fin, e5, hl2, np.1, s1, n10, hnum]
    rfl
/-- a telling of it whose inside is the name -/
theorem G_tell (hx : x < 40) (hd : d < x) (ha : a < x) (hl : l ≤ 9) (F0 : F x 0 = nI 5) (F1 : F x 1 = nI d) (F2 : F x 2 = nI a) (F4 : F x 4 = nI l) (A0 : F a 0 = nI 2) (A4 : F a 4 = nI l) (hD : Rs F d rd) (hX : Rs F x rx) (oD : resOK rd) (oX : resOK rx) : rx = rd := by
  have p0 : mX6_pa 500 (gh F) (nI x) 0 = some (gh F, nI 5) := by have := gpa (cp := 500) (w := 0) hx (by omega) (gh_p (np := x + 1)) F0; rw [nI0] at this; exact this
  have p1 : mX6_pa 500 (gh F) (nI x) 1 = some (gh F, nI d) := by have := gpa (cp := 500) (w := 1) hx (by omega) (gh_p (np := x + 1)) F1; rw [← one_nI] at this; exact this
  rcases Rs_use hD (fr := 44) (by omega) gh_w gh_9 gh_p (by omega) with ⟨f, q, B1, cp1, k1, n1, e, f1, g1, g2⟩ | ⟨r, u1, T1, ch1, r1, B1, cp1, k1, n1, e, f1, w1, u0, u3, r0, ru, num1, len1, old1, cod1, h91, oR1, hpr1⟩
  · have b := oD.1 f q e
    rw [e]
    exact Rs_det1 (cp' := cp1) hX oX hx (f := f) (q := q) (by omega) (by omega) (sf_tell p0 ⟨0 + k1, 0 + n1, by
      unfold mX6_tellingFound mX6_tellingFound_b0 mX6_tellingFound_b10
      simp (disch := omega) only [lq2, lq3, lq4, lq5, lq6, lq7, lq8, lq9, lq10, lq11, lq40, lq59, lq60, lq61, lq100, lq500, lq2600, lq5208, lq1000000, ltT, ltF, leT, leF, eqT, eqF, lt0F, le0F, le0T, ge0T, eq0T, eq0F, eqm1F, ten0, m1lt0, eq_self, nI_add, nI_1, sub1, addm1, addm2, subn, cl0, cl1, ncl, ginT, gin0, gin1, ↓reduceIte, if_true, if_false, Nat.add_sub_cancel, obe, ↓gle, true_or, or_true, ↓(bnd p1), ↓(bnd f1)]⟩) g1 g2
  · have l1 := gle8 w1.1
    have hcp := okc_le w1.1.2.1
    obtain ⟨P, S, a1, a2, a3, a4⟩ := reach_ok w1.1 r1 ru
    have henv : envR B1 0 u1 0 (fun _ => 0) := ⟨h91, by omega, fun k hk => by omega⟩
    obtain ⟨B2, o1, o2, o3, o4, o5⟩ := own_ok a4 62 B1 r1 0 w1.1 w1.2.1 (by omega) henv a2 a1 abv_0 (by omega)
    have flag : ∀ v, 10 + v ∈ T1 r1 → B2 188 v = 1 := fun v hv => (o4 v hv).2 fun ⟨k, hk, _⟩ => by omega
    have pe : prs B2 0 u1 = prs B1 0 u1 := prs_off fun n _ => o2 185 n (by omega)
    have w2 : rW B2 cp1 0 u1 T1 ch1 := ⟨rS_188 o2 o3 w1.1, by unfold RG; rw [pe]; exact reg_188 o2 w1.2.1, fun n hn => by rw [o2 189 n (by omega)]; exact w1.2.2.1 n hn, w1.2.2.2⟩
    have h92 : B2 183 9 = nI 0 := by rw [o2 _ _ (by omega)]; exact h91
    have pt1 : PTr B1 (x + 1) F := PTr_off (ze := 0) (ar := 0) oR1 gh_p
    have pt2 : PTr B2 (x + 1) F := fun p hp w hw => by rw [o2 _ _ (by omega)]; exact pt1 p hp w hw
    have p2 : mX6_pa cp1 B2 (nI x) 2 = some (B2, nI a) := by have := gpa (cp := cp1) (w := 2) hx (by omega) pt2 F2; rw [← lq2] at this; exact this
    have p4 : mX6_pa cp1 B2 (nI x) 4 = some (B2, nI l) := by have := gpa (cp := cp1) (w := 4) hx (by omega) pt2 F4; rw [← lq4] at this; exact this
    obtain ⟨B3, hB3⟩ : ∃ B3, B3 = psR B2 0 (nI l) (nI r1) := ⟨_, rfl⟩
    have ob3 : ∀ a x, a ≠ 190 → a ≠ 191 → ¬ (a = 183 ∧ x = 9) → B3 a x = B2 a x := fun a x q1 q2 q3 => by rw [hB3]; exact psR_off (by omega) (by omega) q3
    have w3 : rW B3 cp1 0 u1 T1 ch1 := by rw [hB3]; exact rW_ps w2
    obtain ⟨g1, g2, g3⟩ := ps_0 (A := B2) (y := nI l) (z := nI r1)
    rw [← hB3] at g1 g2 g3
    have pt3 : PTr B3 (x + 1) F := fun p hp w hw => by rw [ob3 _ _ (by omega) (by omega) (by omega)]; exact pt2 p hp w hw
    have q0 : mX6_pa cp1 B3 (nI a) 0 = some (B3, nI 2) := by have := gpa (cp := cp1) (w := 0) (show a < 40 by omega) (by omega) (PTr_le (by omega) pt3) A0; rw [nI0] at this; exact this
    have q4 : mX6_pa cp1 B3 (nI a) 4 = some (B3, nI l) := by have := gpa (cp := cp1) (w := 4) (show a < 40 by omega) (by omega) (PTr_le (by omega) pt3) A4; rw [← lq4] at this; exact this
    have flag3 : ∀ v, 10 + v ∈ T1 r1 → ¬ B3 188 v = 0 := fun v hv => by rw [ob3 _ _ (by omega) (by omega) (by omega), flag v hv]; decide
    have hTy : Ty (T1 r1) := rS_Ty w1.1 r1 ru
    have cd : ∀ c ∈ T1 r1, c ≤ 3 ∨ ∃ v, v < u1 ∧ c = 10 + v := fun c hc => by
      rcases rS_code w1.1 r1 ru c hc with z | ⟨v, z1, z2, -⟩
      · exact Or.inl z
      · exact Or.inr ⟨v, z1, z2⟩
    have cod : codesU B3 u1 (fun c => [c]) (T1 r1) := fun c hc => by
      rcases cd c hc with z | ⟨v, z1, rfl⟩
      · exact Or.inl ⟨by omega, rfl⟩
      · exact Or.inr ⟨by omega, Ty_leaf (if_neg (by omega)), Or.inl ⟨v, rfl, z1, flag3 v hc⟩⟩
    have fr0 : freshI B3 u1 u1 T1 := by
      refine ⟨fun v hv => ?_, fun v v' w hv hv' hw hw2 y1 y2 => ?_⟩
      · rcases w3.2.2.1 v hv with q | ⟨w, q1, q2⟩
        · exact Or.inl q
        · exact Or.inr ⟨w, q1, q2, fun z => by omega⟩
      · rcases w3.2.2.1 v hv with q | ⟨w', q1, q2⟩
        · rw [y1, eqm1F (by omega)] at q; exact absurd q id
        · rw [y1, neq (by omega) (by omega)] at q2; omega
    have pe3 : prs B3 0 u1 = prs B1 0 u1 := by rw [← pe]; exact prs_off fun n _ => ob3 185 n (by omega) (by omega) (by omega)
    obtain ⟨B4, cp4, kk, nn, u4, T4, ch4, r4, z1, z2, z3, z4, z5, z6, z7, z8, z9, z10, z11, z12, z13, z14, z15⟩ := used_ok (N := 0) (S := prs B3 0 u1) 1250 cp1 B3 u1 T1 ch1 r1 0 (T1 r1) (fun c => [c]) w3 (Nat.le_refl _) w3.2.1 (fun q hq => (mem_prs.mp hq).1) ⟨Nat.zero_le _, ru⟩ fr0 abv_0 (by rw [pe3]; omega) hTy (subE_id fun _ _ => rfl).symm cod (by omega)
    have l4 := gle8 z3.1
    obtain ⟨ρ, hρ⟩ : ∃ ρ : Nat → Nat, ∀ c, ρ c = if c < 10 then c else 10 + (B4 189 (c - 10)).toNatClampNeg := ⟨fun c => if c < 10 then c else 10 + (B4 189 (c - 10)).toNatClampNeg, fun _ => rfl⟩
    have eT : T4 r4 = rn ρ (T1 r1) := by
      rw [z11]
      have e2 : rn ρ (T1 r1) = subE (fun c => [ρ c]) (T1 r1) := by
        show (T1 r1).map ρ = (T1 r1).flatMap fun c => [ρ c]
        rw [List.map_eq_flatMap]
      rw [e2]
      refine subE_cg fun c hc => ?_
      unfold inst
      rcases cd c hc with y | ⟨v, y1, rfl⟩
      · rw [if_neg (by omega), hρ, if_pos (by omega)]
      · rw [show 10 + v - 10 = v by omega, if_pos ⟨by omega, by rw [own_same z10 y1]; exact flag3 v hc⟩, hρ, if_neg (by omega), show 10 + v - 10 = v by omega]
    have nwv : ∀ v, 10 + v ∈ T1 r1 → ∃ w, u1 ≤ w ∧ w ≤ 8000 ∧ B4 189 v = nI w ∧ ρ (10 + v) = 10 + w := fun v hv => by
      obtain ⟨w, y1, y2, y3⟩ := z12 v hv (flag3 v hv)
      exact ⟨w, y1, y2, y3, by rw [hρ, if_neg (by omega), show 10 + v - 10 = v by omega, y3, ncl (by omega)]⟩
    have nm : num0 (T4 r4) = num0 (T1 r1) := by
      rw [eT]
      refine num0_rnm (fun c hc => by rw [hρ, if_pos hc]) (fun c _ h10 => by rw [hρ, if_neg (by omega)]; omega) fun p hp q hq e => ?_
      rcases cd p hp with y | ⟨v, y1, rfl⟩
      · rw [hρ p, if_pos (by omega)] at e
        rcases cd q hq with z | ⟨v', z1', rfl⟩
        · rw [hρ q, if_pos (by omega)] at e; exact e
        · obtain ⟨w, -, -, -, x4⟩ := nwv v' hq
          rw [x4] at e; omega
      · obtain ⟨w, x1, x2, x3, x4⟩ := nwv v hp
        rcases cd q hq with z | ⟨v', z1', rfl⟩
        · rw [x4, hρ q, if_pos (by omega)] at e; omega
        · obtain ⟨w', t1, t2, t3, t4⟩ := nwv v' hq
          rw [x4, t4] at e
          have : w = w' := by omega
          subst this
          rw [z9.2 v v' w y1 z1' x1 x2 x3 t3]
    have ln4 : (T4 r4).length = (T1 r1).length := by rw [eT, rn_len]
    obtain ⟨kf, nf, ff⟩ := found_ok (N := 0) (fr := 43) (rr := r4) (sf_name q0 (name_one hl g1 g2 g3 w3.1.1 q4 z1)) z3.1 (by omega) (by omega)
    have hin := inside_k (N := 0) (recR := mX6_found 0 44) (l := nI l) (t := nI r1) (x := nI a) h92 (by omega) (by rw [← hB3]; exact ff)
    obtain ⟨B5, hB5⟩ : ∃ B5, B5 = g_up B4 183 9 (B4 183 9 - 1) := ⟨_, rfl⟩
    rw [← hB5] at hin
    have w5 : rW B5 cp4 0 u4 T4 ch4 := by rw [hB5]; exact rW_pop z3
    have fin := Rs_det2 (cp' := cp4) hX oX hx (rr := r4) (sf_tell p0 ⟨0 + k1 + (0 + kf), 0 + n1 + (0 + nf), by
      unfold mX6_tellingFound mX6_tellingFound_b0 mX6_tellingFound_b10 mX6_tellingFound_b40
      simp (disch := omega) only [lq2, lq3, lq4, lq5, lq6, lq7, lq8, lq9, lq10, lq11, lq40, lq59, lq60, lq61, lq100, lq500, lq2600, lq5208, lq1000000, ltT, ltF, leT, leF, eqT, eqF, lt0F, le0F, le0T, ge0T, eq0T, eq0F, eqm1F, ten0, m1lt0, eq_self, nI_add, nI_1, sub1, addm1, addm2, subn, cl0, cl1, ncl, ginT, gin0, gin1, ↓reduceIte, if_true, if_false, Nat.add_sub_cancel, obe, ↓gle, true_or, or_true, ↓(bnd p1), ↓(bnd f1), ↓(bnd o1), ↓(bnd p2), ↓(bnd p4), ↓(bnd hin), Nat.zero_add]⟩) w5.1 (by omega) (by omega)
    rw [fin, if_pos (by omega), e, nm, num1]
end GN
