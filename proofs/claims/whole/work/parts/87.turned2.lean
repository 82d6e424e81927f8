/-! TURNING ONE PART BY ANOTHER, on both sides -/
section TU
variable {F : Nat → Nat → Int32} {sz : Nat → Nat} {np : Nat} {res : Nat → (Nat × Nat) ⊕ Rw} {a d : Nat}
theorem pdec : ∀ x : (Nat × Nat) ⊕ Rw, (∃ f q, x = .inl (f, q)) ∨ ∃ r, x = .inr r
  | .inl (f, q) => Or.inl ⟨f, q, rfl⟩
  | .inr r => Or.inr ⟨r, rfl⟩
theorem U_f : ∀ (f : Nat) {a b : Rw} {n : Nat}, U f a b = some (.inl n) → 2 ≤ n ∧ n ≤ 3
  | 0, a, b, n, h => by cases h
  | f + 1, a, b, n, h => by
    rcases U_cases h with ⟨-, e⟩ | ⟨x, a', y, b', rfl, rfl, -, hc⟩
    · cases e
    · rcases hc with ⟨-, -, e⟩ | ⟨-, -, e⟩ | ⟨-, -, -, e⟩ | ⟨-, -, -, e⟩ | ⟨-, -, -, e⟩ | ⟨-, -, -, hc⟩
      · cases e; omega
      · cases e
      · cases e; omega
      · cases e
      · cases e; omega
      · rcases hc with ⟨m, h1, e⟩ | ⟨b1, h1, hc⟩
        · cases e; exact U_f f h1
        · rcases hc with ⟨m, h2, e⟩ | ⟨b2, h2, e⟩
          · cases e; exact U_f f h2
          · cases e
/-- what class frames leave as they are -/
def offQ (A A' : gM) : Prop := ∀ a x, (a < 126 ∨ a = 128 ∨ (137 < a ∧ a ≠ 182)) → A' a x = A a x
theorem turned_ok {A : gM} {s : Nat} (ha : a < np) (hd : d < np) (hnp : np ≤ 40) (sa : stored A a (res a)) (sd : stored A d (res d)) (ra : Rs F a (res a)) (rd : Rs F d (res d)) (oa : resOK (res a)) (od : resOK (res d)) (hst : stI A s) (hs : s + 2700 ≤ 1999990000) :
    ∃ A1 s1 v, v ≤ 4 ∧ mX5_faultOfTurning A (nI a) (nI d) = some (A1, nI v) ∧ stI A1 s1 ∧ s1 ≤ s + 2601 ∧ offQ A A1 ∧
      ∀ (N cp : Nat) (B : gM), 193 ≤ N → RM B cp np F sz → ∃ B' cp' k n, mX6_turned N cp B (nI a) (nI d) = some (B', (cp', k, n), nI v) ∧ costB cp cp' k n 1 6 ∧ offT N np B B' ∧ rO B' cp' := by
  have fa : mX3_fact A (nI a) 0 = some (A, A (86 + a) 0) := fact3_0 (by omega)
  have fd : mX3_fact A (nI d) 0 = some (A, A (86 + d) 0) := fact3_0 (by omega)
  have ptle : ∀ {j : Nat} {B : gM}, j < np → PTr B np F → PTr B (j + 1) F := fun {j} {B} hj h p hp w hw => h p (by omega) w hw
  -- the faults of the parts themselves
  rcases pdec (res a) with ⟨f, q, ea⟩ | ⟨r, ea⟩
  · have hk := sa.1 f q ea
    have hb := oa.1 f q ea
    refine ⟨A, s, f, hb.2.1, ?_, hst, by omega, fun _ _ _ => rfl, fun N cp B hN hB => ?_⟩
    · rw [hk.1] at fa
      unfold mX5_faultOfTurning mX5_faultOfTurning_b0 mX5_faultOfTurning_b24 mX5_faultOfTurning_b45
      rw [bnd fa]
      dsimp only
      rw [if_neg (by rw [eq0F (by omega) (by omega)]; exact not_false), if_neg (by rw [eq0F (by omega) (by omega)]; exact not_false)]
    · obtain ⟨B4, o4, hO4, w4, e9, e12, ⟨t0, t1, t2⟩, start⟩ := turned_start hN hB ha hd
      obtain ⟨h1, h2, h3, h4, h5, h6⟩ := hB
      obtain ⟨B', cp', k, n, c, oR, hO, hf⟩ := ra N 44 cp B4 0 _ _ (by omega) w4 e9 (fun j hj w hw => by rw [o4 _ _ (by omega)]; exact h5 j (by omega) w hw) (by omega)
      rcases hf with ⟨f', q', e', hfd, g1, g2⟩ | ⟨r, ur', Tr', chr', rr, e', -⟩
      · rw [ea] at e'; cases e'
        have p1 : mX6_pa cp B4 (nI np) 1 = some (B4, nI a) := by rw [pa_1 h4, t1]
        have tf : mX6_turningFound N cp (mX6_found N 44) B4 (nI np) = some (B', (cp', 0 + k, 0 + n), -1) := by
          unfold mX6_turningFound mX6_turningFound_b0 mX6_turningFound_b10
          simp (disch := omega) only [lq2, lq3, lq4, lq5, lq6, lq7, lq8, lq9, lq10, lq11, lq40, lq59, lq60, lq61, lq100, lq500, lq2600, lq5208, lq1000000, ltT, ltF, leT, leF, eqT, eqF, lt0F, le0F, le0T, ge0T, eq0T, eq0F, eqm1F, ten0, m1lt0, eq_self, nI_add, nI_1, sub1, addm1, addm2, subn, cl0, cl1, ncl, ginT, gin0, gin1, ↓reduceIte, if_true, if_false, Nat.add_sub_cancel, obe, ↓gle, true_or, or_true, ↓(bnd p1), ↓(bnd hfd)]
        have b5 : mX6_found_b5 N cp' (0 + (0 + (0 + k))) (0 + (0 + (0 + n))) (mX6_found N 44) B' (nI np) (-1) = some (B', (cp', 0 + (0 + (0 + k)), 0 + (0 + (0 + n))), -1) := by
          unfold mX6_found_b5 mX6_found_b30 mX6_found_b31
          simp (disch := omega) only [lq2, lq3, lq4, lq5, lq6, lq7, lq8, lq9, lq10, lq11, lq40, lq59, lq60, lq61, lq100, lq500, lq2600, lq5208, lq1000000, ltT, ltF, leT, leF, eqT, eqF, lt0F, le0F, le0T, ge0T, eq0T, eq0F, eqm1F, ten0, m1lt0, eq_self, nI_add, nI_1, sub1, addm1, addm2, subn, cl0, cl1, ncl, ginT, gin0, gin1, ↓reduceIte, if_true, if_false, Nat.add_sub_cancel, obe, ↓gle, true_or, or_true]
        have tt := start _ _ _ _ _ _ _ _ _ _ tf b5
        rw [g1] at tt
        have cb := costB_of c
        exact ⟨B', cp', _, _, tt, ⟨cb.1, cb.2.1, by have := cb.2.2.1; omega, by have := cb.2.2.2; omega⟩, fun x w z => by rw [oR x w (by omega), o4 x w z], hO⟩
      · rw [ea] at e'; cases e'
  · have hka := sa.2 r ea
    have hba := oa.2 r ea
    rcases pdec (res d) with ⟨f, q, ed⟩ | ⟨r2, ed⟩
    · have hk := sd.1 f q ed
      have hb := od.1 f q ed
      refine ⟨A, s, f, hb.2.1, ?_, hst, by omega, fun _ _ _ => rfl, fun N cp B hN hB => ?_⟩
      · rw [hka.1] at fa
        rw [hk.1] at fd
        unfold mX5_faultOfTurning mX5_faultOfTurning_b0 mX5_faultOfTurning_b24 mX5_faultOfTurning_b45
        rw [bnd fa]
        dsimp only
        rw [if_pos rfl, bnd fd]
        dsimp only
        rw [if_neg (by rw [eq0F (by omega) (by omega)]; exact not_false)]
      · obtain ⟨B4, o4, hO4, w4, e9, e12, ⟨t0, t1, t2⟩, start⟩ := turned_start hN hB ha hd
        obtain ⟨h1, h2, h3, h4, h5, h6⟩ := hB
        obtain ⟨B', cp', k, n, c, oR, hO, hf⟩ := ra N 44 cp B4 0 _ _ (by omega) w4 e9 (fun j hj w hw => by rw [o4 _ _ (by omega)]; exact h5 j (by omega) w hw) (by omega)
        rcases hf with ⟨f', q', e', -⟩ | ⟨r', ua, Ta, cha, rra, e', hfd, wa, ua0, ua3, ra0, rru, hnum, hlen, oldT, old8, hcod, g12, g13, g9, hpr⟩
        · rw [ea] at e'; cases e'
        · rw [ea] at e'; cases e'
          obtain ⟨B2, cp2, k2, n2, c2, oR2, hO2, hf2⟩ := rd N 44 cp' B' ua Ta cha (by omega) (rW_base wa) g9 (fun j hj w hw => by rw [oR _ _ (by omega), o4 _ _ (by omega)]; exact h5 j (by omega) w hw) (by omega)
          rcases hf2 with ⟨f', q', e', hfd2, y1, y2⟩ | ⟨r', ur', Tr', chr', rr, e', -⟩
          · rw [ed] at e'; cases e'
            have p1 : mX6_pa cp B4 (nI np) 1 = some (B4, nI a) := by rw [pa_1 h4, t1]
            have p2 : mX6_pa cp' B' (nI np) 2 = some (B', nI d) := by rw [pa_2 h4, oR _ _ (by omega), t2]
            have hrb : rra ≤ 8000 := by omega
            have tf : mX6_turningFound N cp (mX6_found N 44) B4 (nI np) = some (B2, (cp2, 0 + k + k2, 0 + n + n2), -1) := by
              unfold mX6_turningFound mX6_turningFound_b0 mX6_turningFound_b10 mX6_turningFound_b28
              simp (disch := omega) only [lq2, lq3, lq4, lq5, lq6, lq7, lq8, lq9, lq10, lq11, lq40, lq59, lq60, lq61, lq100, lq500, lq2600, lq5208, lq1000000, ltT, ltF, leT, leF, eqT, eqF, lt0F, le0F, le0T, ge0T, eq0T, eq0F, eqm1F, ten0, m1lt0, eq_self, nI_add, nI_1, sub1, addm1, addm2, subn, cl0, cl1, ncl, ginT, gin0, gin1, ↓reduceIte, if_true, if_false, Nat.add_sub_cancel, obe, ↓gle, true_or, or_true, ↓(bnd p1), ↓(bnd hfd), eqm1F, ↓(bnd p2), ↓(bnd hfd2)]
            have b5 : mX6_found_b5 N cp2 (0 + (0 + (0 + k + k2))) (0 + (0 + (0 + n + n2))) (mX6_found N 44) B2 (nI np) (-1) = some (B2, (cp2, 0 + (0 + (0 + k + k2)), 0 + (0 + (0 + n + n2))), -1) := by
              unfold mX6_found_b5 mX6_found_b30 mX6_found_b31
              simp (disch := omega) only [lq2, lq3, lq4, lq5, lq6, lq7, lq8, lq9, lq10, lq11, lq40, lq59, lq60, lq61, lq100, lq500, lq2600, lq5208, lq1000000, ltT, ltF, leT, leF, eqT, eqF, lt0F, le0F, le0T, ge0T, eq0T, eq0F, eqm1F, ten0, m1lt0, eq_self, nI_add, nI_1, sub1, addm1, addm2, subn, cl0, cl1, ncl, ginT, gin0, gin1, ↓reduceIte, if_true, if_false, Nat.add_sub_cancel, obe, ↓gle, true_or, or_true]
            have tt := start _ _ _ _ _ _ _ _ _ _ tf b5
            rw [y1] at tt
            have cb := costB_tr (costB_of c) (costB_of c2)
            exact ⟨B2, cp2, _, _, tt, ⟨cb.1, cb.2.1, by have := cb.2.2.1; omega, by have := cb.2.2.2; omega⟩, fun x w z => by rw [oR2 x w (by omega), oR x w (by omega), o4 x w z], hO2⟩
          · rw [ed] at e'; cases e'
    · have hkd := sd.2 r2 ed
      have hbd := od.2 r2 ed
      -- the class's run
      obtain ⟨C1, c1, c2, c3⟩ := clear_ok A
      have keep : ∀ {X Y : gM} {j : Nat} {R : Rw}, j < 40 → (∀ a x, (a < 129 ∨ a = 133 ∨ (137 < a ∧ a ≠ 182) ∨ (a = 129 ∧ x ≠ 9)) → Y a x = X a x) → kept X j 0 (-1) R → kept Y j 0 (-1) R := fun {X Y j R} hj o h => by
        obtain ⟨k1, k2, k3, k4, k5, k6⟩ := h
        exact ⟨by rw [o _ _ (by omega)]; exact k1, by rw [o _ _ (by omega)]; exact k2, by rw [o _ _ (by omega)]; exact k3, by rw [o _ _ (by omega)]; exact k4, by rw [o _ _ (by omega)]; exact k5, fun i c hi => by rw [o _ _ (by omega)]; exact k6 i c hi⟩
      have o1 : ∀ a x, (a < 129 ∨ a = 133 ∨ (137 < a ∧ a ≠ 182) ∨ (a = 129 ∧ x ≠ 9)) → C1 a x = A a x := fun a x q => c3 a x (by omega)
      obtain ⟨C2, u2, T2, ch2, na, ga, x1, x2, x3, x4, x5, x6, x7, x8, x9, x10⟩ := buildRow_ok c2 (p := a) (by omega) (keep (by omega) o1 hka) hba.1 hba.2.1 hba.2.2 (by omega)
      obtain ⟨C3, u3, T3, ch3, nb, gb, y1, y2, y3, y4, y5, y6, y7, y8, y9, y10⟩ := buildRow_ok x2 (p := d) (by omega) (keep (by omega) x10 (keep (by omega) o1 hkd)) hbd.1 hbd.2.1 hbd.2.2 (by omega)
      obtain ⟨v1, v2⟩ := newVariable_ok y2 (by omega)
      obtain ⟨m1, m2⟩ := pair_ok (c := 2) (i := nb) (j := u3) v2 (by omega) (Or.inl rfl) (by omega) (by omega)
      obtain ⟨C4, hC4⟩ : ∃ C4, C4 = mkA C3 u3 4 (-1) (-1) := ⟨_, rfl⟩
      obtain ⟨T4, hT4⟩ : ∃ T4, T4 = at1 T3 u3 [100 + u3] := ⟨_, rfl⟩
      obtain ⟨C5, hC5⟩ : ∃ C5, C5 = mkA C4 (u3 + 1) (nI 2) (nI nb) (nI u3) := ⟨_, rfl⟩
      obtain ⟨T5, hT5⟩ : ∃ T5, T5 = at1 T4 (u3 + 1) (2 :: (T4 nb ++ T4 u3)) := ⟨_, rfl⟩
      rw [← hC4] at v1 m1 m2
      rw [← hT4, ← hT5, ← hC5] at m2
      rw [← hC5] at m1
      have ofr : ∀ a x, (a < 129 ∨ a = 133 ∨ (137 < a ∧ a ≠ 182) ∨ (a = 129 ∧ x ≠ 9)) → C5 a x = A a x := fun a x q => by rw [hC5, mkA_else (by omega), hC4, mkA_else (by omega), y10 a x q, x10 a x q, o1 a x q]
      have st5 : stI C5 s := stI_off hst (ofr _ _ (by omega)) (funext fun x => ofr _ x (by omega))
      have eTa : T5 na = exR ga (fun n => [n]) r := by rw [hT5, at1_n (by omega), hT4, at1_n (by omega), y7 na (by omega), x6]
      have eTb : T5 nb = exR gb T2 r2 := by rw [hT5, at1_n (by omega), hT4, at1_n (by omega), y6]
      have eTv : T5 u3 = [100 + u3] := by rw [hT5, at1_n (by omega), hT4, at1_s]
      have eTm : T5 (u3 + 1) = 2 :: (T5 nb ++ T5 u3) := by
        rw [eTv, hT5, at1_s, at1_n (show nb ≠ u3 + 1 by omega), hT4, at1_s]
      have m1' : mX4_make C4 2 (nI nb) (nI u3) = some (C5, nI (u3 + 1)) := by rw [lq2]; exact m1
      have pre : ∀ X, mX4_match C5 (nI na) (nI (u3 + 1)) = some X → mX5_faultOfTurning A (nI a) (nI d) = (if X.2 = 0 then (mX0_isTooLong X.1 (nI u3)).bind fun q8 => if q8.2 = 0 then some (q8.1, 0) else some (q8.1, 4) else some (X.1, X.2)) := by
        intro X hX
        rw [hka.1] at fa
        rw [hkd.1] at fd
        have inner : mX0_faultOfTurning A (nI a) (nI d) = (if X.2 = 0 then (mX0_isTooLong X.1 (nI u3)).bind fun q8 => if q8.2 = 0 then some (q8.1, 0) else some (q8.1, 4) else some (X.1, X.2)) := by
          unfold mX0_faultOfTurning mX0_faultOfTurning_b0 mX0_faultOfTurning_b77
          rw [bnd c1, bnd x1]
          dsimp only
          rw [bnd y1]
          dsimp only
          rw [bnd v1]
          dsimp only
          rw [bnd m1']
          dsimp only
          rw [bnd hX]
        unfold mX5_faultOfTurning mX5_faultOfTurning_b0 mX5_faultOfTurning_b24 mX5_faultOfTurning_b45
        rw [bnd fa]
        dsimp only
        rw [if_pos rfl, bnd fd]
        dsimp only
        rw [if_pos rfl, inner]
        by_cases z : X.2 = 0
        · rw [if_pos z]
          cases hh : mX0_isTooLong X.1 (nI u3) with
          | none => rfl
          | some q8 =>
            rw [obe]
            by_cases zz : q8.2 = 0
            · rw [if_pos zz, obe]
            · rw [if_neg zz, obe]
        · rw [if_neg z, obe]
      obtain ⟨gU, resU, hU, hcm⟩ := match_ok m2 st5 (by omega) (a := na) (b := u3 + 1) (by omega) (by omega)
      -- the reference's run, up to the join
      have both : ∀ (N cp : Nat) (B : gM), 193 ≤ N → RM B cp np F sz → ∃ B5 cp5 k5 n5 V ρ ub rra um Pr Sl Tr5 chr5, (∀ x w, (x < 183 ∨ (x = 184 ∧ w < 6 * np) ∨ (192 ≤ x ∧ x < N) ∨ (x = 183 ∧ w ≠ 3 ∧ w ≠ 9 ∧ w ≠ 12 ∧ w ≠ 13)) → B5 x w = B x w) ∧ B5 183 12 = 0 ∧ cost cp cp5 k5 n5 ∧ rW B5 cp5 0 (um + 1) Tr5 chr5 ∧ RLV (u3 + 2) (um + 1) B5 ρ V ∧ (∀ n, Pr n → n < um + 1) ∧ reg B5 Pr Sl ∧ Sl.length + 1 < 1250 ∧ Pr rra ∧ Pr um ∧ Pr ub ∧ rra ≤ 8000 ∧ ub ≤ 8000 ∧ rn ρ (T5 na) = Tr5 rra ∧ rn ρ (T5 (u3 + 1)) = Tr5 um ∧ rn ρ (T5 u3) = Tr5 ub ∧ (∀ x ∈ T5 na, lowV V x) ∧ (∀ x ∈ T5 (u3 + 1), lowV V x) ∧ (∀ x ∈ T5 u3, lowV V x) ∧
          ∀ B6 j, mX6_join cp5 1250 B5 (nI rra) (nI um) (nI np) = some (B6, j) → ∀ B7 v cp7, mX6_found_b5 N cp5 (0 + (0 + k5)) (0 + (0 + n5)) (mX6_found N 44) B6 (nI np) (if j = 0 then -1 else nI ub) = some (B7, (cp7, 0 + (0 + k5), 0 + (0 + n5)), v) → mX6_turned N cp B (nI a) (nI d) = some (B7, (cp7, 0 + (0 + 1) + (0 + (0 + (0 + k5))), 0 + (0 + 6) + (0 + (0 + (0 + n5)))), B7 183 12) := by
        intro N cp B hN hB
        obtain ⟨B4, o4, hO4, w4, e9, e12, ⟨t0, t1, t2⟩, start⟩ := turned_start hN hB ha hd
        obtain ⟨h1, h2, h3, h4, h5, h6⟩ := hB
        obtain ⟨B', cp', k, n, c, oR, hO, hf⟩ := ra N 44 cp B4 0 _ _ (by omega) w4 e9 (fun j hj w hw => by rw [o4 _ _ (by omega)]; exact h5 j (by omega) w hw) (by omega)
        rcases hf with ⟨f', q', e', -⟩ | ⟨r', ua, Ta, cha, rra, e', hfd, wa, ua0, ua3, ra0, rru, hnum, hlen, oldT, old8, hcod, g12, g13, g9, hpr⟩
        · rw [ea] at e'; cases e'
        · rw [ea] at e'; cases e'
          obtain ⟨B2, cp2, k2, n2, cc2, oR2, hO2, hf2⟩ := rd N 44 cp' B' ua Ta cha (by omega) (rW_base wa) g9 (fun j hj w hw => by rw [oR _ _ (by omega), o4 _ _ (by omega)]; exact h5 j (by omega) w hw) (by omega)
          rcases hf2 with ⟨f', q', e', -⟩ | ⟨r', ub, Tb, chb, rrb, e', hfd2, wb, ub0, ub3, rb0, rrbu, hnum2, hlen2, oldT2, old82, hcod2, g122, g132, g92, hpr2⟩
          · rw [ed] at e'; cases e'
          · rw [ed] at e'; cases e'
            have wb0 := rW_zero wb
            obtain ⟨B3, cp3, k3, n3, q1, q2, q3, q4, q5, q6, q7, q8⟩ := variable_ok (N := N) wb0 (by omega)
            obtain ⟨B5, cp5, k5, n5, z1, z2, z3, z4, z5, z6⟩ := pairN_ok (N := N) (c := 2) (i := rrb) (j := ub) q3 (by omega) (Or.inl rfl) (by omega) (by omega)
            obtain ⟨Tr4, hTr4⟩ : ∃ Tr4, Tr4 = at1 Tb ub [10 + ub] := ⟨_, rfl⟩
            obtain ⟨Tr5, hTr5⟩ : ∃ Tr5, Tr5 = at1 Tr4 (ub + 1) (2 :: (Tr4 rrb ++ Tr4 ub)) := ⟨_, rfl⟩
            rw [← hTr4, ← hTr5] at z3
            have eA : Tr5 rra = Ta rra := by rw [hTr5, at1_n (by omega), hTr4, at1_n (by omega), oldT2 rra rru]
            have eB : Tr5 rrb = Tb rrb := by rw [hTr5, at1_n (by omega), hTr4, at1_n (by omega)]
            have eV : Tr5 ub = [10 + ub] := by rw [hTr5, at1_n (by omega), hTr4, at1_s]
            have eM : Tr5 (ub + 1) = 2 :: (Tr5 rrb ++ Tr5 ub) := by rw [eV, eB, hTr5, at1_s, hTr4, at1_n (show rrb ≠ ub by omega), at1_s]
            have cA : ∀ x ∈ Ta rra, x < 10 ∨ (10 + 0 ≤ x ∧ x < 10 + ua ∧ B' 188 (x - 10) = 0) := fun x hx => by
              rcases hcod x hx with y | ⟨y1, y2⟩
              · exact Or.inl y
              · rcases rS_code wa.1 rra rru x hx with w | ⟨v, w1, w2, -⟩
                · omega
                · exact Or.inr ⟨y1, by omega, y2⟩
            have cB : ∀ x ∈ Tb rrb, x < 10 ∨ (10 + ua ≤ x ∧ x < 10 + ub ∧ B2 188 (x - 10) = 0) := fun x hx => by
              rcases hcod2 x hx with y | ⟨y1, y2⟩
              · exact Or.inl y
              · rcases rS_code wb.1 rrb rrbu x hx with w | ⟨v, w1, w2, -⟩
                · omega
                · exact Or.inr ⟨y1, by omega, y2⟩
            have rl0 : RLV 2 0 B4 id (fun _ => False) := ⟨⟨fun _ _ => rfl, fun _ h => h, fun _ _ _ _ e => e⟩, fun x hx => absurd hx id⟩
            obtain ⟨ρ1, V1, rl1, ex1, row1, in1⟩ := ext_row (T := fun n => [n]) rl0 x3 ua0 old8 hba.2.2 hba.2.1 x8 x9 hnum cA
            obtain ⟨ρ2, V2, rl2, ex2, row2, in2⟩ := ext_row (T := T2) rl1 y3 ub0 old82 hbd.2.2 hbd.2.1 y8 y9 hnum2 cB
            have e85 : ∀ m, m < ub → B5 188 m = B2 188 m := fun m hm => by rw [z4 188 m (by omega) (by omega), q4 188 m (by omega) (by omega)]
            have rl3 := RLV_var rl2 (Ar' := B5) (uc' := u3 + 2) (ur' := ub + 1 + 1) (x := 100 + u3) (y := 10 + ub) (by omega) (by omega) e85 (by omega) (by omega) (by omega) (by omega) (by rw [show 10 + ub - 10 = ub by omega, z4 188 ub (by omega) (by omega)]; exact q6)
            have at3 : ∀ x, lowV V2 x → at1 ρ2 (100 + u3) (10 + ub) x = ρ2 x := fun x hx => at1_n (by
              rcases hx with y | y
              · omega
              · have := (rl2.2 x y).2.1; omega)
            have rowA : rn (at1 ρ2 (100 + u3) (10 + ub)) (T5 na) = Tr5 rra := by
              rw [eTa, eA, ← row1]
              refine rn_cg fun x hx => ?_
              rcases in1 x hx with y | y
              · rw [at3 x (Or.inl y), rl2.1.low x y, rl1.1.low x y]
              · rw [at3 x (Or.inr (ex2 x y).1), (ex2 x y).2]
            have rowB : rn (at1 ρ2 (100 + u3) (10 + ub)) (T5 nb) = Tr5 rrb := by
              rw [eTb, eB, ← row2]
              exact rn_cg fun x hx => at3 x (in2 x hx)
            have rowV : rn (at1 ρ2 (100 + u3) (10 + ub)) (T5 u3) = Tr5 ub := by rw [eTv, eV, rn_one, at1_s]
            have inA : ∀ x ∈ T5 na, lowV (fun z => V2 z ∨ z = 100 + u3) x := fun x hx => by
              rw [eTa] at hx
              exact (in1 x hx).imp id fun y => Or.inl (ex2 x y).1
            have inB' : ∀ x ∈ T5 nb, lowV (fun z => V2 z ∨ z = 100 + u3) x := fun x hx => by
              rw [eTb] at hx
              exact (in2 x hx).imp id Or.inl
            have inV : ∀ x ∈ T5 u3, lowV (fun z => V2 z ∨ z = 100 + u3) x := fun x hx => by
              rw [eTv, List.mem_singleton] at hx
              exact Or.inr (Or.inr hx)
            obtain ⟨P1, S1, p11, p12, p13, p14⟩ := reach_ok z3.1 rra (by omega)
            obtain ⟨P2, S2, p21, p22, p23, p24⟩ := reach_ok z3.1 (ub + 1) (by omega)
            have hM := (p22 (ub + 1) p21).2 2 rrb ub (Or.inl rfl)
            have kM : B5 185 (ub + 1) = nI 2 ∧ B5 186 (ub + 1) = nI rrb ∧ B5 187 (ub + 1) = nI ub := by
              obtain ⟨X, cpX, kX, nX, w1, w2, w3, w4, w5, w6, w7, w8, w9, w10, w11⟩ := node_raw (N := N) (x := nI 2) (y := nI rrb) (z := nI ub) q3.1.1 q3.1.2.1 q3.1.2.2.1 (show ub + 1 < 8000 by omega) q3.1.2.2.2.2.1
              rw [z1] at w1
              have := (Prod.mk.inj (Option.some.inj w1)).1
              subst this
              exact ⟨w5, w6, w7⟩
            have hPu := (hM kM.1 kM.2.1 kM.2.2 (by omega) (by omega)).2.2
            have l1 : (Tr5 rra).length ≤ 60 := by rw [eA]; exact hlen
            have l2 : (Tr5 (ub + 1)).length ≤ 62 := by rw [eM, eV, eB]; simp; omega
            refine ⟨B5, cp5, 0 + k + k2 + k3 + k5, 0 + n + n2 + n3 + n5, fun z => V2 z ∨ z = 100 + u3, at1 ρ2 (100 + u3) (10 + ub), ub, rra, ub + 1, fun n => P1 n ∨ P2 n, S1 ++ S2, Tr5, _, fun x w hx => ?_, ?_, ?_, z3, rl3, fun n hn => hn.elim (p14 n) (p24 n), reg_or p12 p22, by rw [List.length_append]; omega, Or.inl p11, Or.inr p21, Or.inr hPu, by omega, by omega, rowA, ?_, rowV, inA, ?_, inV, fun B6 j hj B7 v cp7 h7 => ?_⟩
            · rw [z4 x w (by omega) (by omega), q4 x w (by omega) (by omega), oR2 x w (by omega), oR x w (by omega), o4 x w hx]
            · rw [z4 183 12 (by omega) (by omega), q4 183 12 (by omega) (by omega), g122, g12, e12]
            · rw [Nat.zero_add, Nat.zero_add]; exact cost_tr (cost_tr (cost_tr c cc2) q2) z2
            · rw [eTm, eM, rn_cons, rn_app, rowB, rowV, rl3.1.low 2 (by omega)]
            · intro x hx
              rw [eTm] at hx
              rcases List.mem_cons.mp hx with hx | hx
              · exact Or.inl (by omega)
              · exact (List.mem_append.mp hx).elim (inB' x) (inV x)
            · have p1 : mX6_pa cp B4 (nI np) 1 = some (B4, nI a) := by rw [pa_1 h4, t1]
              have p2 : mX6_pa cp' B' (nI np) 2 = some (B', nI d) := by rw [pa_2 h4, oR _ _ (by omega), t2]
              have z1' : mX6_node N cp3 B3 2 (nI rrb) (nI ub) = some (B5, (cp5, k5, n5), nI (ub + 1)) := by rw [lq2]; exact z1
              have hrb : rra ≤ 8000 ∧ rrb ≤ 8000 := by omega
              have tf : mX6_turningFound N cp (mX6_found N 44) B4 (nI np) = some (B6, (cp5, 0 + k + k2 + k3 + k5, 0 + n + n2 + n3 + n5), if j = 0 then -1 else nI ub) := by
                by_cases jz : j = 0
                · subst jz
                  unfold mX6_turningFound mX6_turningFound_b0 mX6_turningFound_b10 mX6_turningFound_b28 mX6_turningFound_b40 mX6_turningFound_b52 mX6_turningFound_b65
                  simp (disch := omega) only [lq2, lq3, lq4, lq5, lq6, lq7, lq8, lq9, lq10, lq11, lq40, lq59, lq60, lq61, lq100, lq500, lq2600, lq5208, lq1000000, ltT, ltF, leT, leF, eqT, eqF, lt0F, le0F, le0T, ge0T, eq0T, eq0F, eqm1F, ten0, m1lt0, eq_self, nI_add, nI_1, sub1, addm1, addm2, subn, cl0, cl1, ncl, ginT, gin0, gin1, ↓reduceIte, if_true, if_false, Nat.add_sub_cancel, obe, ↓gle, true_or, or_true, ↓(bnd p1), ↓(bnd hfd), eqm1F, ↓(bnd p2), ↓(bnd hfd2), ↓(bnd q1), ↓(bnd z1'), ↓(bnd hj)]
                · rw [if_neg jz]
                  unfold mX6_turningFound mX6_turningFound_b0 mX6_turningFound_b10 mX6_turningFound_b28 mX6_turningFound_b40 mX6_turningFound_b52 mX6_turningFound_b65
                  simp (disch := omega) only [lq2, lq3, lq4, lq5, lq6, lq7, lq8, lq9, lq10, lq11, lq40, lq59, lq60, lq61, lq100, lq500, lq2600, lq5208, lq1000000, ltT, ltF, leT, leF, eqT, eqF, lt0F, le0F, le0T, ge0T, eq0T, eq0F, eqm1F, ten0, m1lt0, eq_self, nI_add, nI_1, sub1, addm1, addm2, subn, cl0, cl1, ncl, ginT, gin0, gin1, ↓reduceIte, if_true, if_false, Nat.add_sub_cancel, obe, ↓gle, true_or, or_true, ↓(bnd p1), ↓(bnd hfd), eqm1F, ↓(bnd p2), ↓(bnd hfd2), ↓(bnd q1), ↓(bnd z1'), ↓(bnd hj), jz]
              exact start _ _ _ _ _ _ _ _ _ _ tf h7
      have b5f : ∀ (N cp k n : Nat) (B : gM), mX6_found_b5 N cp k n (mX6_found N 44) B (nI np) (-1) = some (B, (cp, k, n), -1) := fun N cp k n B => by
        unfold mX6_found_b5 mX6_found_b30 mX6_found_b31
        simp (disch := omega) only [lq2, lq3, lq4, lq5, lq6, lq7, lq8, lq9, lq10, lq11, lq40, lq59, lq60, lq61, lq100, lq500, lq2600, lq5208, lq1000000, ltT, ltF, leT, leF, eqT, eqF, lt0F, le0F, le0T, ge0T, eq0T, eq0F, eqm1F, ten0, m1lt0, eq_self, nI_add, nI_1, sub1, addm1, addm2, subn, cl0, cl1, ncl, ginT, gin0, gin1, ↓reduceIte, if_true, if_false, Nat.add_sub_cancel, obe, ↓gle, true_or, or_true]
      rcases hcm with ⟨n, C6, s6, en, hn3, o6, st6, hs6, hm6⟩ | ⟨bs, C6, ch6, s6, en, o6, st6, hs6, hT6, -, hm6⟩
      · rw [en] at hU
        have hn2 := U_f gU hU
        refine ⟨C6, s6, n, by omega, ?_, st6, hs6, fun x w q => ?_, fun N cp B hN hB => ?_⟩
        · rw [pre _ hm6]
          dsimp only
          rw [if_neg (by rw [eq0F (by omega) (by omega)]; exact not_false)]
        · rw [o6 x w (by omega) (by omega) (by omega) (by omega) (by omega) (by omega) (by omega), ofr x w (by omega)]
        · obtain ⟨B5, cp5, k5, n5, V, ρ, ub, rra, um, Pr, Sl, Tr5, chr5, oB, e12, co, rw5, rl5, hP, hrg, hSl, q1, q2, q3, b1, b2, rA, rM, rV, iA, iM, iV, go⟩ := both N cp B hN hB
          rcases both_join0 (part := nI np) m2 st5 rw5 rl5 (fun x hx => hx) (a := na) (d := u3 + 1) (by omega) (by omega) (fun n hn => ⟨Nat.zero_le _, hP n hn⟩) hrg q1 q2 rA rM iA iM hSl (by omega) with ⟨n', Ac', sc', Ar', z1, z2, m, j, y1, y2, y3, oJ, f1, f2⟩ | ⟨Ac', Tc', sc', Ar', Tr', chc', chr', m, j, -⟩
          · rw [hm6] at m
            obtain ⟨ee, en'⟩ := Prod.mk.inj (Option.some.inj m)
            rw [neq (by omega) (by omega)] at en'
            subst en'
            have tt := go _ _ j Ar' (-1) cp5 (by rw [if_pos rfl]; exact b5f _ _ _ _ _)
            rw [f1] at tt
            have cb := costB_of co
            exact ⟨Ar', cp5, _, _, tt, ⟨cb.1, cb.2.1, by have := cb.2.2.1; omega, by have := cb.2.2.2; omega⟩, fun x w z => by rw [oJ.1 x w (by omega) (by omega) (by omega), oB x w z], fun i hi => by rw [oJ.1 188 i (by omega) (by omega) (by omega)]; exact rw5.1.2.2.2.2.1 i hi⟩
          · rw [hm6] at m
            have := (Prod.mk.inj (Option.some.inj m)).2
            exact absurd this (by rw [eq0F (by omega) (by omega)]; exact id)
      · obtain ⟨Cw, w1, w2, w3⟩ := write_ok hT6 (n := u3) (by omega)
        obtain ⟨v, hv⟩ : ∃ v, v = if (apL bs (T5 u3)).length ≤ 60 then 0 else 4 := ⟨_, rfl⟩
        have hv4 : v ≤ 4 := by rw [hv]; split <;> omega
        have tl : mX0_isTooLong C6 (nI u3) = some (Cw, if (apL bs (T5 u3)).length ≤ 60 then 0 else 1) := by
          unfold mX0_isTooLong mX0_isTooLong_b0 mX0_isTooLong_b22
          by_cases q : (apL bs (T5 u3)).length ≤ 60
          · rw [if_pos q] at w1 ⊢
            simp (disch := omega) only [lq2, lq3, lq4, lq5, lq6, lq7, lq8, lq9, lq10, lq11, lq40, lq59, lq60, lq61, lq100, lq500, lq2600, lq5208, lq1000000, ltT, ltF, leT, leF, eqT, eqF, lt0F, le0F, le0T, ge0T, eq0T, eq0F, eqm1F, ten0, m1lt0, eq_self, nI_add, nI_1, sub1, addm1, addm2, subn, cl0, cl1, ncl, ginT, gin0, gin1, ↓reduceIte, if_true, if_false, Nat.add_sub_cancel, obe, ↓gle, true_or, or_true, ↓(bnd w1)]
          · rw [if_neg q] at w1 ⊢
            simp (disch := omega) only [lq2, lq3, lq4, lq5, lq6, lq7, lq8, lq9, lq10, lq11, lq40, lq59, lq60, lq61, lq100, lq500, lq2600, lq5208, lq1000000, ltT, ltF, leT, leF, eqT, eqF, lt0F, le0F, le0T, ge0T, eq0T, eq0F, eqm1F, ten0, m1lt0, eq_self, nI_add, nI_1, sub1, addm1, addm2, subn, cl0, cl1, ncl, ginT, gin0, gin1, ↓reduceIte, if_true, if_false, Nat.add_sub_cancel, obe, ↓gle, true_or, or_true, ↓(bnd w1)]
        refine ⟨Cw, s6, v, hv4, ?_, stI_off st6 (w2 129 10 (by omega) (by omega) (by omega) (by omega)) (funext fun x => w2 133 x (by omega) (by omega) (by omega) (by omega)), hs6, fun x w q => ?_, fun N cp B hN hB => ?_⟩
        · rw [pre _ hm6]
          dsimp only
          rw [if_pos rfl, bnd tl]
          dsimp only
          by_cases q : (apL bs (T5 u3)).length ≤ 60
          · rw [if_pos q, if_pos rfl, hv, if_pos q, nI0]
          · rw [if_neg q, if_neg (by decide), hv, if_neg q, lq4]
        · rw [w2 x w (by omega) (by omega) (by omega) (by omega), o6 x w (by omega) (by omega) (by omega) (by omega) (by omega) (by omega) (by omega), ofr x w (by omega)]
        · obtain ⟨B5, cp5, k5, n5, V, ρ, ub, rra, um, Pr, Sl, Tr5, chr5, oB, e12, co, rw5, rl5, hP, hrg, hSl, q1, q2, q3, b1, b2, rA, rM, rV, iA, iM, iV, go⟩ := both N cp B hN hB
          rcases both_join0 (part := nI np) m2 st5 rw5 rl5 (fun x hx => hx) (a := na) (d := u3 + 1) (by omega) (by omega) (fun n hn => ⟨Nat.zero_le _, hP n hn⟩) hrg q1 q2 rA rM iA iM hSl (by omega) with ⟨n', Ac', sc', Ar', z1, z2, m, -⟩ | ⟨Ac', Tc', sc', Ar', Tr', chc', chr', m, j, y1, oJ, y3, y4, y5, y6, y7, adv, f1, f2, pe, hrg'⟩
          · rw [hm6] at m
            have := (Prod.mk.inj (Option.some.inj m)).2
            exact absurd this.symm (by rw [eq0F (by omega) (by omega)]; exact id)
          · rw [hm6] at m
            have ee := (Prod.mk.inj (Option.some.inj m)).1
            subst ee
            obtain ⟨Cw', w1', -, -⟩ := write_ok y4 (n := u3) (by omega)
            have hrow := Adv_row rl5.1.low y7.1.low adv (n := u3) (m := ub) (by omega) (hP ub q3) iV rV
            have hlr : (Tr' ub).length = (Tc' u3).length := by rw [← hrow.1, rn_len]
            have hcd := codes_ok y6.1 hrg' hP 1250 ub 0 q3 abv_0 (by omega)
            rw [hlr] at hcd
            rw [w1] at w1'
            have el := (Prod.mk.inj (Option.some.inj w1')).2
            have cb := costB_of co
            have hO6 : rO Ar' cp5 := y6.1.2.2.2.2.1
            have oT : offT N np B Ar' := fun x w z => by rw [oJ.1 x w (by omega) (by omega) (by omega), oB x w z]
            by_cases q : (apL bs (T5 u3)).length ≤ 60
            · have q' : (Tc' u3).length ≤ 60 := by
                by_cases y : (Tc' u3).length ≤ 60
                · exact y
                · rw [if_pos q, if_neg y, neq (by omega) (by omega)] at el; omega
              rw [show min 61 (Tc' u3).length = (Tc' u3).length by omega] at hcd
              have tt := go _ _ j Ar' (nI ub) cp5 (by
                rw [if_neg (by decide)]
                unfold mX6_found_b5 mX6_found_b30 mX6_found_b31
                simp (disch := omega) only [lq2, lq3, lq4, lq5, lq6, lq7, lq8, lq9, lq10, lq11, lq40, lq59, lq60, lq61, lq100, lq500, lq2600, lq5208, lq1000000, ltT, ltF, leT, leF, eqT, eqF, lt0F, le0F, le0T, ge0T, eq0T, eq0F, eqm1F, ten0, m1lt0, eq_self, nI_add, nI_1, sub1, addm1, addm2, subn, cl0, cl1, ncl, ginT, gin0, gin1, ↓reduceIte, if_true, if_false, Nat.add_sub_cancel, obe, ↓gle, true_or, or_true, ↓(bnd hcd)])
              rw [f1, e12] at tt
              refine ⟨Ar', cp5, 0 + (0 + 1) + (0 + (0 + (0 + k5))), 0 + (0 + 6) + (0 + (0 + (0 + n5))), ?_, ⟨cb.1, cb.2.1, ?_, ?_⟩, oT, hO6⟩
              · rw [hv, if_pos q, nI0]; exact tt
              · have := cb.2.2.1; omega
              · have := cb.2.2.2; omega
            · have q' : ¬ (Tc' u3).length ≤ 60 := by
                intro y
                rw [if_neg q, if_pos y, neq (by omega) (by omega)] at el; omega
              rw [show min 61 (Tc' u3).length = 61 by omega] at hcd
              have tt := go _ _ j (g_up (g_up Ar' 183 12 4) 183 13 (nI np)) (-1) cp5 (by
                rw [if_neg (by decide)]
                unfold mX6_found_b5 mX6_found_b31
                simp (disch := omega) only [lq2, lq3, lq4, lq5, lq6, lq7, lq8, lq9, lq10, lq11, lq40, lq59, lq60, lq61, lq100, lq500, lq2600, lq5208, lq1000000, ltT, ltF, leT, leF, eqT, eqF, lt0F, le0F, le0T, ge0T, eq0T, eq0F, eqm1F, ten0, m1lt0, eq_self, nI_add, nI_1, sub1, addm1, addm2, subn, cl0, cl1, ncl, ginT, gin0, gin1, ↓reduceIte, if_true, if_false, Nat.add_sub_cancel, obe, ↓gle, true_or, or_true, ↓(bnd hcd), rfail_k])
              rw [up_p (by omega), up_s] at tt
              refine ⟨g_up (g_up Ar' 183 12 4) 183 13 (nI np), cp5, 0 + (0 + 1) + (0 + (0 + (0 + k5))), 0 + (0 + 6) + (0 + (0 + (0 + n5))), ?_, ⟨cb.1, cb.2.1, ?_, ?_⟩, fun x w z => by rw [up_get, if_neg (by omega), up_get, if_neg (by omega)]; exact oT x w z, fun i hi => by rw [up_c (by omega), up_c (by omega)]; exact hO6 i hi⟩
              · rw [hv, if_neg q, ← lq4]; exact tt
              · have := cb.2.2.1; omega
              · have := cb.2.2.2; omega
end TU
