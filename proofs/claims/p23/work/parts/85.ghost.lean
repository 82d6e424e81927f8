/-! THE GHOST'S RUNS, PART BY PART -/
theorem rW_base {A : gM} {cp b u : Nat} {T : Nat → Rw} {ch : Nat → Nat} (h : rW A cp b u T ch) : rW A cp u u T ch := ⟨h.1, fun n hn => by omega, h.2.2.1, Nat.le_refl u⟩
theorem rW_zero {A : gM} {cp b u : Nat} {T : Nat → Rw} {ch : Nat → Nat} (h : rW A cp b u T ch) : rW A cp 0 u T ch := by
  refine ⟨h.1, fun n hn => ⟨fun i z1 z2 z3 => ?_, fun c i j hc z1 z2 z3 z4 z5 => ?_⟩, h.2.2.1, Nat.zero_le u⟩
  · have hu := h.1.2.2.1
    have hcp := okc_le h.1.2.1
    rcases h.1.2.2.2.1 n hn.2 with ⟨c, hc, hk, hT⟩ | ⟨hk, hl, hT⟩ | ⟨hk, i', hi, hl, hT, hc⟩ | ⟨c, i', j, hc, hi, hj, hk, hl, hr, hT⟩
    · rw [hk, neq (by omega) (by omega)] at z1; omega
    · rw [hl] at z2; exact absurd z2.symm (by rw [eqm1F (by omega)]; exact id)
    · rw [hl, neq (by omega) (by omega)] at z2; omega
    · rw [hk, neq (by omega) (by omega)] at z1; omega
  · have hu := h.1.2.2.1
    have hcp := okc_le h.1.2.1
    refine ⟨mem_prs.mpr ⟨hn.2, Nat.zero_le _, by rcases hc with rfl | rfl; exact Or.inl z1; exact Or.inr z1⟩, ?_⟩
    rcases h.1.2.2.2.1 n hn.2 with ⟨c', hc', hk, hT⟩ | ⟨hk, hl, hT⟩ | ⟨hk, i', hi, hl, hT, hc'⟩ | ⟨c', i', j', hc', hi, hj, hk, hl, hr, hT⟩
    · rw [hk, neq (by omega) (by omega)] at z1; omega
    · rw [hk, neq (by omega) (by omega)] at z1; omega
    · rw [hk, neq (by omega) (by omega)] at z1; omega
    · rw [hl, neq (by omega) (by omega)] at z2; rw [hr, neq (by omega) (by omega)] at z3; omega
theorem reg_or {A : gM} {P P' : Nat → Prop} {S S' : List Nat} (h1 : reg A P S) (h2 : reg A P' S') : reg A (fun n => P n ∨ P' n) (S ++ S') := by
  intro n hn
  rcases hn with hn | hn
  · exact ⟨fun i z1 z2 z3 => Or.inl ((h1 n hn).1 i z1 z2 z3), fun c i j hc z1 z2 z3 z4 z5 => ⟨List.mem_append.mpr (Or.inl ((h1 n hn).2 c i j hc z1 z2 z3 z4 z5).1), Or.inl ((h1 n hn).2 c i j hc z1 z2 z3 z4 z5).2.1, Or.inl ((h1 n hn).2 c i j hc z1 z2 z3 z4 z5).2.2⟩⟩
  · exact ⟨fun i z1 z2 z3 => Or.inr ((h2 n hn).1 i z1 z2 z3), fun c i j hc z1 z2 z3 z4 z5 => ⟨List.mem_append.mpr (Or.inr ((h2 n hn).2 c i j hc z1 z2 z3 z4 z5).1), Or.inr ((h2 n hn).2 c i j hc z1 z2 z3 z4 z5).2.1, Or.inr ((h2 n hn).2 c i j hc z1 z2 z3 z4 z5).2.2⟩⟩
theorem rS_uniq {A : gM} {cp cp2 u u2 : Nat} {T T2 : Nat → Rw} {ch ch2 : Nat → Nat} (h : rS A cp u T ch) (h2 : rS A cp2 u2 T2 ch2) : u2 = u ∧ ∀ n, n < u → T2 n = T n := by
  have hu := h.2.2.1
  have hcp := okc_le h.2.1
  have hu2 := h2.2.2.1
  have hcp2 := okc_le h2.2.1
  have eu : u2 = u := by
    have := h.1
    rw [h2.1, neq (by omega) (by omega)] at this; exact this
  refine ⟨eu, ?_⟩
  have k2 := h2.2.2.2.1
  rw [eu] at k2
  refine rS_ind h (fun n c hn hc hk e => ?_) (fun n hn h4 h6 e => ?_) (fun n i hn hi h4 h6 e p => ?_) (fun n c i j hn hi hj hc q1 q2 q3 e p1 p2 => ?_)
  · rcases k2 n hn with ⟨c', hc', y1, y2⟩ | ⟨y1, y2, y3⟩ | ⟨y1, i', y2, y3, y4, -⟩ | ⟨c', i', j', hc', y1, y2, y3, y4, y5, y6⟩
    · rw [hk, neq (by omega) (by omega)] at y1; rw [e, y2, y1]
    · rw [hk, neq (by omega) (by omega)] at y1; omega
    · rw [hk, neq (by omega) (by omega)] at y1; omega
    · rw [hk, neq (by omega) (by omega)] at y3; omega
  · rcases k2 n hn with ⟨c', hc', y1, y2⟩ | ⟨y1, y2, y3⟩ | ⟨y1, i', y2, y3, y4, -⟩ | ⟨c', i', j', hc', y1, y2, y3, y4, y5, y6⟩
    · rw [h4, neq (by omega) (by omega)] at y1; omega
    · rw [e, y3]
    · rw [h6] at y3; exact absurd y3.symm (by rw [eqm1F (by omega)]; exact id)
    · rw [h4, neq (by omega) (by omega)] at y3; omega
  · rcases k2 n hn with ⟨c', hc', y1, y2⟩ | ⟨y1, y2, y3⟩ | ⟨y1, i', y2, y3, y4, -⟩ | ⟨c', i', j', hc', y1, y2, y3, y4, y5, y6⟩
    · rw [h4, neq (by omega) (by omega)] at y1; omega
    · rw [h6] at y2; exact absurd y2 (by rw [eqm1F (by omega)]; exact id)
    · rw [h6, neq (by omega) (by omega)] at y3
      subst y3
      rw [y4, e, p]
    · rw [h4, neq (by omega) (by omega)] at y3; omega
  · rcases k2 n hn with ⟨c', hc', y1, y2⟩ | ⟨y1, y2, y3⟩ | ⟨y1, i', y2, y3, y4, -⟩ | ⟨c', i', j', hc', y1, y2, y3, y4, y5, y6⟩
    · rw [q1, neq (by omega) (by omega)] at y1; omega
    · rw [q1, neq (by omega) (by omega)] at y1; omega
    · rw [q1, neq (by omega) (by omega)] at y1; omega
    · rw [q1, neq (by omega) (by omega)] at y3
      rw [q2, neq (by omega) (by omega)] at y4
      rw [q3, neq (by omega) (by omega)] at y5
      subst y3; subst y4; subst y5
      rw [y6, e, p1, p2]
/-- a memory of the ghost with just the parts of F -/
def gh (F : Nat → Nat → Int32) : gM := fun a x => if a = 184 then F (x / 6) (x % 6) else 0
theorem gh_o {F : Nat → Nat → Int32} {a x : Nat} (h : a ≠ 184) : gh F a x = 0 := if_neg h
theorem gh_w {F : Nat → Nat → Int32} : rW (gh F) 500 0 0 (fun _ => []) (fun _ => 0) := ⟨⟨by rw [gh_o (by omega)]; exact nI0.symm, Or.inl rfl, by omega, fun n hn => absurd hn (Nat.not_lt_zero n), fun i _ => Or.inl (gh_o (by omega)), fun n hn => absurd hn (Nat.not_lt_zero n)⟩, fun n hn => absurd hn.2 (Nat.not_lt_zero n), fun n hn => absurd hn (Nat.not_lt_zero n), Nat.le_refl 0⟩
theorem gh_p {F : Nat → Nat → Int32} {np : Nat} : PTr (gh F) np F := fun j _ w hw => by
  show (if 184 = 184 then F ((6 * j + w) / 6) ((6 * j + w) % 6) else 0) = F j w
  rw [if_pos rfl, show (6 * j + w) / 6 = j by omega, show (6 * j + w) % 6 = w by omega]
theorem gh_9 {F : Nat → Nat → Int32} : gh F 183 9 = nI 0 := (gh_o (by omega)).trans nI0.symm
/-- what finding a part does in any memory of the ghost -/
theorem Rs_use {F : Nat → Nat → Int32} {p : Nat} {rp : (Nat × Nat) ⊕ Rw} (h : Rs F p rp) {fr cp b u : Nat} {B : gM} {T : Nat → Rw} {ch : Nat → Nat} (hfr : p < fr) (w : rW B cp b u T ch) (h9 : B 183 9 = nI 0) (pt : PTr B (p + 1) F) (hu : 3 * u + 7319 ≤ 23900) :
    (∃ f q B' cp' k n, rp = .inl (f, q) ∧ mX6_found 0 fr cp B (nI p) = some (B', (cp', k, n), -1) ∧ B' 183 12 = nI f ∧ B' 183 13 = nI q) ∨
    (∃ r u' T' ch' rr B' cp' k n, rp = .inr r ∧ mX6_found 0 fr cp B (nI p) = some (B', (cp', k, n), nI rr) ∧ rW B' cp' u u' T' ch' ∧ u ≤ u' ∧ 3 * u' ≤ 3 * u + 7319 ∧ u ≤ rr ∧ rr < u' ∧ num0 (T' rr) = r ∧ (T' rr).length ≤ 60 ∧ (∀ m, m < u → T' m = T m) ∧ (∀ x ∈ T' rr, x < 10 ∨ (10 + u ≤ x ∧ x < 10 + u')) ∧ B' 183 9 = nI 0 ∧ offR 0 B B' ∧ 3 * (prs B' u u').length ≤ 3509) := by
  obtain ⟨B', cp', k, n, c, oR, hO, hf⟩ := h 0 0 0 0 fr cp B u u T ch hfr (rW_base w) h9 EX_0 (Or.inl rfl) pt hu (by rw [prs_0]; omega)
  rcases hf with ⟨f, q, e, hfd, g1, g2⟩ | ⟨r, u', T', ch', rr, e, hfd, w', u0, u3, r0, ru, hnum, hlen, oldT, old8, hcod, g12, g13, g9, hpr⟩
  · exact Or.inl ⟨f, q, B', cp', k, n, e, hfd, g1, g2⟩
  · refine Or.inr ⟨r, u', T', ch', rr, B', cp', k, n, e, hfd, w', u0, u3, r0, ru, hnum, hlen, oldT, fun x hx => ?_, g9, oR, by rw [prs_0] at hpr; omega⟩
    rcases hcod x hx with y | ⟨y1, -⟩
    · exact Or.inl y
    · rcases rS_code w'.1 rr ru x hx with z | ⟨v, z1, z2, -⟩
      · omega
      · exact Or.inr ⟨y1, by omega⟩
section FN
variable {N fr cp cp' u p rr : Nat} {A B : gM} {T : Nat → Rw} {ch : Nat → Nat}
theorem found_fail (h : ∃ k n, mX6_sortFound N cp (mX6_found N fr) A (nI p) = some (B, (cp', k, n), -1)) : ∃ k n, mX6_found N (fr + 1) cp A (nI p) = some (B, (cp', k, n), -1) := by
  obtain ⟨k, n, h⟩ := h
  refine ⟨0 + k, 0 + n, ?_⟩
  show mX6_found_b0 N cp 0 0 (mX6_found N fr) A (nI p) = _
  unfold mX6_found_b0 mX6_found_b5 mX6_found_b30 mX6_found_b31
  simp (disch := omega) only [lq2, lq3, lq4, lq5, lq6, lq7, lq8, lq9, lq10, lq11, lq40, lq59, lq60, lq61, lq100, lq500, lq2600, lq5208, lq1000000, ltT, ltF, leT, leF, eqT, eqF, lt0F, le0F, le0T, ge0T, eq0T, eq0F, eqm1F, ten0, m1lt0, eq_self, nI_add, nI_1, sub1, addm1, addm2, subn, cl0, cl1, ncl, ginT, gin0, gin1, ↓reduceIte, if_true, if_false, Nat.add_sub_cancel, obe, ↓gle, true_or, or_true, ↓(bnd h)]
theorem found_ok (h : ∃ k n, mX6_sortFound N cp (mX6_found N fr) A (nI p) = some (B, (cp', k, n), nI rr)) (w : rS B cp' u T ch) (hr : rr < u) (hl : (T rr).length ≤ 60) : ∃ k n, mX6_found N (fr + 1) cp A (nI p) = some (B, (cp', k, n), nI rr) := by
  obtain ⟨k, n, h⟩ := h
  have hu := w.2.2.1
  have hcp := okc_le w.2.1
  obtain ⟨P, S, a1, a2, a3, a4⟩ := reach_ok w rr hr
  have hc := codes_ok w a2 a4 1250 rr 0 a1 abv_0 (by omega)
  rw [show min 61 (T rr).length = (T rr).length by omega] at hc
  refine ⟨0 + k, 0 + n, ?_⟩
  show mX6_found_b0 N cp 0 0 (mX6_found N fr) A (nI p) = _
  unfold mX6_found_b0 mX6_found_b5 mX6_found_b30 mX6_found_b31
  simp (disch := omega) only [lq2, lq3, lq4, lq5, lq6, lq7, lq8, lq9, lq10, lq11, lq40, lq59, lq60, lq61, lq100, lq500, lq2600, lq5208, lq1000000, ltT, ltF, leT, leF, eqT, eqF, lt0F, le0F, le0T, ge0T, eq0T, eq0F, eqm1F, ten0, m1lt0, eq_self, nI_add, nI_1, sub1, addm1, addm2, subn, cl0, cl1, ncl, ginT, gin0, gin1, ↓reduceIte, if_true, if_false, Nat.add_sub_cancel, obe, ↓gle, true_or, or_true, ↓(bnd h), ↓(bnd hc)]
theorem found_long (h : ∃ k n, mX6_sortFound N cp (mX6_found N fr) A (nI p) = some (B, (cp', k, n), nI rr)) (w : rS B cp' u T ch) (hr : rr < u) (hl : 60 < (T rr).length) (hl2 : (T rr).length ≤ 200) : ∃ k n, mX6_found N (fr + 1) cp A (nI p) = some (g_up (g_up B 183 12 (nI 4)) 183 13 (nI p), (cp', k, n), -1) := by
  obtain ⟨k, n, h⟩ := h
  have hu := w.2.2.1
  have hcp := okc_le w.2.1
  obtain ⟨P, S, a1, a2, a3, a4⟩ := reach_ok w rr hr
  have hc := codes_ok w a2 a4 1250 rr 0 a1 abv_0 (by omega)
  rw [show min 61 (T rr).length = 61 by omega] at hc
  refine ⟨0 + k, 0 + n, ?_⟩
  show mX6_found_b0 N cp 0 0 (mX6_found N fr) A (nI p) = _
  unfold mX6_found_b0 mX6_found_b5 mX6_found_b31
  simp (disch := omega) only [lq2, lq3, lq4, lq5, lq6, lq7, lq8, lq9, lq10, lq11, lq40, lq59, lq60, lq61, lq100, lq500, lq2600, lq5208, lq1000000, ltT, ltF, leT, leF, eqT, eqF, lt0F, le0F, le0T, ge0T, eq0T, eq0F, eqm1F, ten0, m1lt0, eq_self, nI_add, nI_1, sub1, addm1, addm2, subn, cl0, cl1, ncl, ginT, gin0, gin1, ↓reduceIte, if_true, if_false, Nat.add_sub_cancel, obe, ↓gle, true_or, or_true, ↓(bnd h), ↓(bnd hc), rfail_k]
end FN
section DT
variable {F : Nat → Nat → Int32} {x : Nat} {rx : (Nat × Nat) ⊕ Rw} {B : gM} {cp' : Nat}
theorem Rs_det0 (h : Rs F x rx) (oX : resOK rx) (hx : x < 40) {f q : Nat} (hf : f ≤ 1000) (hq : q ≤ 1000) (fd : ∃ k n, mX6_found 0 45 500 (gh F) (nI x) = some (B, (cp', k, n), -1)) (h12 : B 183 12 = nI f) (h13 : B 183 13 = nI q) : rx = .inl (f, q) := by
  obtain ⟨k, n, fd⟩ := fd
  rcases Rs_use h (fr := 45) (by omega) gh_w gh_9 gh_p (by omega) with ⟨f', q', B', cp1, k1, n1, e, hfd, g1, g2⟩ | ⟨r, u', T', ch', rr, B', cp1, k1, n1, e, hfd, w', u0, u3, r0, ru, -⟩
  · rw [fd] at hfd
    have eB := (Prod.mk.inj (Option.some.inj hfd)).1
    subst eB
    have b := oX.1 f' q' e
    rw [h12, neq (by omega) (by omega)] at g1
    rw [h13, neq (by omega) (by omega)] at g2
    rw [e, g1, g2]
  · rw [fd] at hfd
    have ev := (Prod.mk.inj (Prod.mk.inj (Option.some.inj hfd)).2).2
    have hu := w'.1.2.2.1
    have hcp := okc_le w'.1.2.1
    exact absurd ev.symm (by rw [eqm1F (by omega)]; exact id)
theorem Rs_det1 (h : Rs F x rx) (oX : resOK rx) (hx : x < 40) {f q : Nat} (hf : f ≤ 1000) (hq : q ≤ 1000) (sf : ∃ k n, mX6_sortFound 0 500 (mX6_found 0 44) (gh F) (nI x) = some (B, (cp', k, n), -1)) (h12 : B 183 12 = nI f) (h13 : B 183 13 = nI q) : rx = .inl (f, q) :=
  Rs_det0 h oX hx hf hq (found_fail sf) h12 h13
theorem Rs_det2 (h : Rs F x rx) (oX : resOK rx) (hx : x < 40) {u rr : Nat} {T : Nat → Rw} {ch : Nat → Nat} (sf : ∃ k n, mX6_sortFound 0 500 (mX6_found 0 44) (gh F) (nI x) = some (B, (cp', k, n), nI rr)) (w : rS B cp' u T ch) (hr : rr < u) (hl : (T rr).length ≤ 200) : rx = if (T rr).length ≤ 60 then .inr (num0 (T rr)) else .inl (4, x) := by
  by_cases q : (T rr).length ≤ 60
  · rw [if_pos q]
    obtain ⟨k, n, fd⟩ := found_ok sf w hr q
    have hu := w.2.2.1
    have hcp := okc_le w.2.1
    rcases Rs_use h (fr := 45) (by omega) gh_w gh_9 gh_p (by omega) with ⟨f', q', B', cp1, k1, n1, e, hfd, g1, g2⟩ | ⟨r, u', T', ch', rr', B', cp1, k1, n1, e, hfd, w', u0, u3, r0, ru, hnum, -⟩
    · rw [fd] at hfd
      have ev := (Prod.mk.inj (Prod.mk.inj (Option.some.inj hfd)).2).2
      exact absurd ev (by rw [eqm1F (by omega)]; exact id)
    · rw [fd] at hfd
      have eB := (Prod.mk.inj (Option.some.inj hfd)).1
      subst eB
      have ev := (Prod.mk.inj (Prod.mk.inj (Option.some.inj hfd)).2).2
      have hu' := w'.1.2.2.1
      have hcp' := okc_le w'.1.2.1
      rw [neq (by omega) (by omega)] at ev
      subst ev
      rw [e, ← hnum, (rS_uniq w w'.1).2 rr hr]
  · rw [if_neg q]
    exact Rs_det0 h oX hx (by omega) (by omega) (found_long sf w hr (by omega) hl) (by rw [up_p (by omega), up_s]) up_s
end DT
section SF
variable {N cp cp' p : Nat} {A B : gM} {v : Int32} {rec : Nat → gM → Int32 → Option (gM × (Nat × Nat × Nat) × Int32)}
theorem sf_wheel (p0 : mX6_pa cp A (nI p) 0 = some (A, nI 3)) (h : ∃ k n, mX6_wheelFound N cp rec A (nI p) = some (B, (cp', k, n), v)) : ∃ k n, mX6_sortFound N cp rec A (nI p) = some (B, (cp', k, n), v) := by
  obtain ⟨k, n, h⟩ := h
  refine ⟨k, n, ?_⟩
  unfold mX6_sortFound mX6_sortFound_b0 mX6_sortFound_b76
  simp (disch := omega) only [lq2, lq3, lq4, lq5, lq6, lq7, lq8, lq9, lq10, lq11, lq40, lq59, lq60, lq61, lq100, lq500, lq2600, lq5208, lq1000000, ltT, ltF, leT, leF, eqT, eqF, lt0F, le0F, le0T, ge0T, eq0T, eq0F, eqm1F, ten0, m1lt0, eq_self, nI_add, nI_1, sub1, addm1, addm2, subn, cl0, cl1, ncl, ginT, gin0, gin1, ↓reduceIte, if_true, if_false, Nat.add_sub_cancel, obe, ↓gle, true_or, or_true, ↓(bnd p0), ↓(bnd h), eq1F, Nat.zero_add]
theorem sf_turn (p0 : mX6_pa cp A (nI p) 0 = some (A, nI 4)) (h : ∃ k n, mX6_turningFound N cp rec A (nI p) = some (B, (cp', k, n), v)) : ∃ k n, mX6_sortFound N cp rec A (nI p) = some (B, (cp', k, n), v) := by
  obtain ⟨k, n, h⟩ := h
  refine ⟨k, n, ?_⟩
  unfold mX6_sortFound mX6_sortFound_b0 mX6_sortFound_b82
  simp (disch := omega) only [lq2, lq3, lq4, lq5, lq6, lq7, lq8, lq9, lq10, lq11, lq40, lq59, lq60, lq61, lq100, lq500, lq2600, lq5208, lq1000000, ltT, ltF, leT, leF, eqT, eqF, lt0F, le0F, le0T, ge0T, eq0T, eq0F, eqm1F, ten0, m1lt0, eq_self, nI_add, nI_1, sub1, addm1, addm2, subn, cl0, cl1, ncl, ginT, gin0, gin1, ↓reduceIte, if_true, if_false, Nat.add_sub_cancel, obe, ↓gle, true_or, or_true, ↓(bnd p0), ↓(bnd h), eq1F, Nat.zero_add]
theorem sf_tell (p0 : mX6_pa cp A (nI p) 0 = some (A, nI 5)) (h : ∃ k n, mX6_tellingFound N cp rec A (nI p) = some (B, (cp', k, n), v)) : ∃ k n, mX6_sortFound N cp rec A (nI p) = some (B, (cp', k, n), v) := by
  obtain ⟨k, n, h⟩ := h
  refine ⟨k, n, ?_⟩
  unfold mX6_sortFound mX6_sortFound_b0 mX6_sortFound_b88
  simp (disch := omega) only [lq2, lq3, lq4, lq5, lq6, lq7, lq8, lq9, lq10, lq11, lq40, lq59, lq60, lq61, lq100, lq500, lq2600, lq5208, lq1000000, ltT, ltF, leT, leF, eqT, eqF, lt0F, le0F, le0T, ge0T, eq0T, eq0F, eqm1F, ten0, m1lt0, eq_self, nI_add, nI_1, sub1, addm1, addm2, subn, cl0, cl1, ncl, ginT, gin0, gin1, ↓reduceIte, if_true, if_false, Nat.add_sub_cancel, obe, ↓gle, true_or, or_true, ↓(bnd p0), ↓(bnd h), eq1F, Nat.zero_add]
theorem sf_axle (p0 : mX6_pa cp A (nI p) 0 = some (A, nI 6)) (h : ∃ k n, mX6_axleFound N cp rec A (nI p) = some (B, (cp', k, n), v)) : ∃ k n, mX6_sortFound N cp rec A (nI p) = some (B, (cp', k, n), v) := by
  obtain ⟨k, n, h⟩ := h
  refine ⟨k, n, ?_⟩
  unfold mX6_sortFound mX6_sortFound_b0 mX6_sortFound_b94
  simp (disch := omega) only [lq2, lq3, lq4, lq5, lq6, lq7, lq8, lq9, lq10, lq11, lq40, lq59, lq60, lq61, lq100, lq500, lq2600, lq5208, lq1000000, ltT, ltF, leT, leF, eqT, eqF, lt0F, le0F, le0T, ge0T, eq0T, eq0F, eqm1F, ten0, m1lt0, eq_self, nI_add, nI_1, sub1, addm1, addm2, subn, cl0, cl1, ncl, ginT, gin0, gin1, ↓reduceIte, if_true, if_false, Nat.add_sub_cancel, obe, ↓gle, true_or, or_true, ↓(bnd p0), ↓(bnd h), eq1F, Nat.zero_add]
theorem sf_end (p0 : mX6_pa cp A (nI p) 0 = some (A, nI 7)) (h : ∃ k n, mX6_endFound N cp rec A (nI p) = some (B, (cp', k, n), v)) : ∃ k n, mX6_sortFound N cp rec A (nI p) = some (B, (cp', k, n), v) := by
  obtain ⟨k, n, h⟩ := h
  refine ⟨k, n, ?_⟩
  unfold mX6_sortFound mX6_sortFound_b0 mX6_sortFound_b100
  simp (disch := omega) only [lq2, lq3, lq4, lq5, lq6, lq7, lq8, lq9, lq10, lq11, lq40, lq59, lq60, lq61, lq100, lq500, lq2600, lq5208, lq1000000, ltT, ltF, leT, leF, eqT, eqF, lt0F, le0F, le0T, ge0T, eq0T, eq0F, eqm1F, ten0, m1lt0, eq_self, nI_add, nI_1, sub1, addm1, addm2, subn, cl0, cl1, ncl, ginT, gin0, gin1, ↓reduceIte, if_true, if_false, Nat.add_sub_cancel, obe, ↓gle, true_or, or_true, ↓(bnd p0), ↓(bnd h), eq1F, Nat.zero_add]
theorem sf_choice (p0 : mX6_pa cp A (nI p) 0 = some (A, nI 8)) (h : ∃ k n, mX6_choiceFound N cp rec A (nI p) = some (B, (cp', k, n), v)) : ∃ k n, mX6_sortFound N cp rec A (nI p) = some (B, (cp', k, n), v) := by
  obtain ⟨k, n, h⟩ := h
  refine ⟨k, n, ?_⟩
  unfold mX6_sortFound mX6_sortFound_b0 mX6_sortFound_b106
  simp (disch := omega) only [lq2, lq3, lq4, lq5, lq6, lq7, lq8, lq9, lq10, lq11, lq40, lq59, lq60, lq61, lq100, lq500, lq2600, lq5208, lq1000000, ltT, ltF, leT, leF, eqT, eqF, lt0F, le0F, le0T, ge0T, eq0T, eq0F, eqm1F, ten0, m1lt0, eq_self, nI_add, nI_1, sub1, addm1, addm2, subn, cl0, cl1, ncl, ginT, gin0, gin1, ↓reduceIte, if_true, if_false, Nat.add_sub_cancel, obe, ↓gle, true_or, or_true, ↓(bnd p0), ↓(bnd h), eq1F, Nat.zero_add]
theorem sf_name (p0 : mX6_pa cp A (nI p) 0 = some (A, nI 2)) (h : ∃ k n, mX6_nameFound N cp A (nI p) = some (B, (cp', k, n), v)) : ∃ k n, mX6_sortFound N cp rec A (nI p) = some (B, (cp', k, n), v) := by
  obtain ⟨k, n, h⟩ := h
  refine ⟨k, n, ?_⟩
  unfold mX6_sortFound mX6_sortFound_b0 mX6_sortFound_b70
  simp (disch := omega) only [lq2, lq3, lq4, lq5, lq6, lq7, lq8, lq9, lq10, lq11, lq40, lq59, lq60, lq61, lq100, lq500, lq2600, lq5208, lq1000000, ltT, ltF, leT, leF, eqT, eqF, lt0F, le0F, le0T, ge0T, eq0T, eq0F, eqm1F, ten0, m1lt0, eq_self, nI_add, nI_1, sub1, addm1, addm2, subn, cl0, cl1, ncl, ginT, gin0, gin1, ↓reduceIte, if_true, if_false, Nat.add_sub_cancel, obe, ↓gle, true_or, or_true, ↓(bnd p0), ↓(bnd h), eq1F, Nat.zero_add]
theorem sf_flag (p0 : mX6_pa cp A (nI p) 0 = some (A, nI 1)) (h : ∃ k n, mX6_node N cp A (nI 1) (-1) (-1) = some (B, (cp', k, n), v)) : ∃ k n, mX6_sortFound N cp rec A (nI p) = some (B, (cp', k, n), v) := by
  obtain ⟨k, n, h⟩ := h
  refine ⟨k, n, ?_⟩
  unfold mX6_sortFound mX6_sortFound_b0 mX6_sortFound_b52 mX6_sortFound_b64
  simp (disch := omega) only [lq2, lq3, lq4, lq5, lq6, lq7, lq8, lq9, lq10, lq11, lq40, lq59, lq60, lq61, lq100, lq500, lq2600, lq5208, lq1000000, ltT, ltF, leT, leF, eqT, eqF, lt0F, le0F, le0T, ge0T, eq0T, eq0F, eqm1F, ten0, m1lt0, eq_self, nI_add, nI_1, sub1, addm1, addm2, subn, cl0, cl1, ncl, ginT, gin0, gin1, ↓reduceIte, if_true, if_false, Nat.add_sub_cancel, obe, ↓gle, true_or, or_true, ↓(bnd p0), ↓(bnd h), eq1T, Nat.zero_add]
end SF
