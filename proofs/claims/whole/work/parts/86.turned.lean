/-! THE REFERENCE'S put -/
def kid (np : Nat) (x : Int32) : Prop := x = -1 ∨ ∃ c, c < np ∧ x = nI c
def szk (sz : Nat → Nat) (x : Int32) : Nat := if x = -1 then 0 else sz x.toNatClampNeg
theorem szk_n {sz : Nat → Nat} : szk sz (-1) = 0 := if_pos rfl
theorem szk_c {sz : Nat → Nat} {c : Nat} (h : c ≤ 40) : szk sz (nI c) = sz c := by unfold szk; rw [if_neg (by rw [eqm1F (by omega)]; exact not_false), ncl (by omega)]
theorem size_ok {cp np : Nat} {A : gM} {x : Int32} {sz : Nat → Nat} (hn : np ≤ 40) (hx : kid np x) (hs : ∀ c, c < np → A 184 (6 * c + 5) = nI (sz c)) : mX6_size cp A x = some (A, nI (szk sz x)) := by
  rcases hx with rfl | ⟨c, hc, rfl⟩
  · rw [szk_n]
    unfold mX6_size mX6_size_b0 mX6_size_b15
    rw [if_pos rfl, nI0]
  · have hp : mX6_pa cp A (nI c) 5 = some (A, nI (sz c)) := by
      rw [lq5, pa_w (by omega) (by omega), hs c hc]
    rw [szk_c (by omega)]
    unfold mX6_size mX6_size_b0 mX6_size_b15
    rw [if_neg (by rw [eqm1F (by omega)]; exact not_false), bnd hp]
theorem put_ok {N cp np : Nat} {A : gM} {s x y z l : Int32} {sz : Nat → Nat} (hN : 193 ≤ N) (hn : np ≤ 40) (h1 : A 183 1 = nI np) (hx : kid np x) (hy : kid np y) (hz : kid np z) (hs : ∀ c, c < np → A 184 (6 * c + 5) = nI (sz c)) :
    ∃ A', mX6_put N cp A s x y z l = some (A', (cp, 0 + 1, 0 + 6)) ∧ (A' 184 (6 * np + 0) = s ∧ A' 184 (6 * np + 1) = x ∧ A' 184 (6 * np + 2) = y ∧ A' 184 (6 * np + 3) = z ∧ A' 184 (6 * np + 4) = l ∧ A' 184 (6 * np + 5) = nI (1 + szk sz x + szk sz y + szk sz z)) ∧ (∀ j, j < 6 * np → A' 184 j = A 184 j) ∧ ∀ a w, a ≠ 184 → a ≠ N → A' a w = A a w := by
  obtain ⟨B, hB⟩ : ∃ B, B = g_up (g_up (g_up (g_up (g_up (g_row A N (fun _ => 0)) N 0 s) N 1 x) N 2 y) N 3 z) N 4 l := ⟨_, rfl⟩
  have oB : ∀ a w, a ≠ N → B a w = A a w := fun a w q => by rw [hB, up_c q, up_c q, up_c q, up_c q, up_c q, g_row_n q]
  have sB : ∀ c, c < np → B 184 (6 * c + 5) = nI (sz c) := fun c hc => by rw [oB _ _ (by omega)]; exact hs c hc
  have z1 := size_ok (cp := cp) hn hx sB
  have z2 := size_ok (cp := cp) hn hy sB
  have z3 := size_ok (cp := cp) hn hz sB
  obtain ⟨C, hC⟩ : ∃ C, C = g_up B N 5 (nI (1 + szk sz x + szk sz y + szk sz z)) := ⟨_, rfl⟩
  have oC : ∀ a w, a ≠ N → C a w = A a w := fun a w q => by rw [hC, up_c q, oB a w q]
  have e1 : C 183 1 = nI np := by rw [oC _ _ (by omega)]; exact h1
  have m6 : (6 : Int32).toNatClampNeg = 6 := by decide
  have e6 : (6 * C 183 1).toNatClampNeg = 6 * np := by rw [e1, mul6, ncl (by omega)]
  have eA : (1 : Int32) + nI (szk sz x) + nI (szk sz y) + nI (szk sz z) = nI (1 + szk sz x + szk sz y + szk sz z) := by rw [one_nI, nI_add, nI_add, nI_add]
  have c2 : (2 : Int32).toNatClampNeg = 2 := by decide
  have c3 : (3 : Int32).toNatClampNeg = 3 := by decide
  have c4 : (4 : Int32).toNatClampNeg = 4 := by decide
  have c5 : (5 : Int32).toNatClampNeg = 5 := by decide
  have g0 : g_in 0 6 = true := by decide
  have g1 : g_in 1 6 = true := by decide
  have g2 : g_in 2 6 = true := by decide
  have g3 : g_in 3 6 = true := by decide
  have g4 : g_in 4 6 = true := by decide
  have g5 : g_in 5 6 = true := by decide
  refine ⟨g_row C 184 (va_cpy (C N) (C 184) 0 (6 * np) 6), ?_, ?_, fun j hj => ?_, fun a w q1 q2 => by rw [g_row_n q1, oC a w q2]⟩
  · unfold mX6_put mX6_put_b0
    rw [if_pos (by decide), m6]
    unfold mX6_put_b4
    rw [g0, if_pos rfl, gle, cl0, g1, if_pos rfl, gle, cl1, g2, if_pos rfl, gle, c2, g3, if_pos rfl, gle, c3, g4, if_pos rfl, gle, c4, ← hB, bnd z1]
    dsimp only
    rw [bnd z2]
    dsimp only
    rw [bnd z3]
    dsimp only
    rw [g5, if_pos rfl, gle, c5, eA, ← hC, if_pos ⟨by decide, by rw [e1, mul6]; exact nlt0 (by omega), by decide, by rw [m6]; omega, by rw [e6, m6]; omega⟩, gle, e6, m6]
  · have at_ : ∀ w, w < 6 → g_row C 184 (va_cpy (C N) (C 184) 0 (6 * np) 6) 184 (6 * np + w) = C N w := fun w hw => by
      rw [g_row_s]; unfold va_cpy; rw [if_pos (by omega), show 0 + (6 * np + w - 6 * np) = w by omega]
    refine ⟨?_, ?_, ?_, ?_, ?_, ?_⟩
    · rw [at_ 0 (by omega), hC, up_p (by omega), hB, up_p (by omega), up_p (by omega), up_p (by omega), up_p (by omega), up_s]
    · rw [at_ 1 (by omega), hC, up_p (by omega), hB, up_p (by omega), up_p (by omega), up_p (by omega), up_s]
    · rw [at_ 2 (by omega), hC, up_p (by omega), hB, up_p (by omega), up_p (by omega), up_s]
    · rw [at_ 3 (by omega), hC, up_p (by omega), hB, up_p (by omega), up_s]
    · rw [at_ 4 (by omega), hC, up_p (by omega), hB, up_s]
    · rw [at_ 5 (by omega), hC, up_s]
  · rw [g_row_s]; unfold va_cpy; rw [if_neg (by omega), oC _ _ (by omega)]
/-! TURNING ONE PART BY ANOTHER -/
theorem rW_base {A : gM} {cp b u : Nat} {T : Nat → Rw} {ch : Nat → Nat} (h : rW A cp b u T ch) : rW A cp u u T ch := ⟨h.1, fun n hn => by omega, h.2.2.1, Nat.le_refl u⟩
theorem rW_zero {A : gM} {cp b u : Nat} {T : Nat → Rw} {ch : Nat → Nat} (h : rW A cp b u T ch) : rW A cp 0 u T ch := by
  refine ⟨h.1, fun n hn => ⟨fun i z1 z2 z3 => ?_, fun c i j hc z1 z2 z3 z4 z5 => ?_⟩, h.2.2.1, Nat.zero_le u⟩
  · have hu := h.1.2.2.1
    have hcp := okc_le h.1.2.1
    rcases h.1.2.2.2.1 n hn.2 with ⟨c, hc, hk, hT⟩ | ⟨hk, hl, hT⟩ | ⟨hk, i', hi, hl, hT, hc⟩ | ⟨c, i', j, hc, hi, hj, hk, hl, hr, hT⟩
    · rw [hk, neq (by omega) (by omega)] at z1; omega
    · rw [hl] at z2; exact absurd z2.symm (by rw [eqm1F (by omega)]; exact id)
    · rw [hl, neq (by omega) (by omega)] at z2; omega
    · rw [hk, neq (by omega) (by omega)] at z1; omega
  · have hu := h.1.2.2.1
    have hcp := okc_le h.1.2.1
    refine ⟨mem_prs.mpr ⟨hn.2, Nat.zero_le _, by rcases hc with rfl | rfl; exact Or.inl z1; exact Or.inr z1⟩, ?_⟩
    rcases h.1.2.2.2.1 n hn.2 with ⟨c', hc', hk, hT⟩ | ⟨hk, hl, hT⟩ | ⟨hk, i', hi, hl, hT, hc'⟩ | ⟨c', i', j', hc', hi, hj, hk, hl, hr, hT⟩
    · rw [hk, neq (by omega) (by omega)] at z1; omega
    · rw [hk, neq (by omega) (by omega)] at z1; omega
    · rw [hk, neq (by omega) (by omega)] at z1; omega
    · rw [hl, neq (by omega) (by omega)] at z2; rw [hr, neq (by omega) (by omega)] at z3; omega
theorem reg_or {A : gM} {P P' : Nat → Prop} {S S' : List Nat} (h1 : reg A P S) (h2 : reg A P' S') : reg A (fun n => P n ∨ P' n) (S ++ S') := by
  intro n hn
  rcases hn with hn | hn
  · exact ⟨fun i z1 z2 z3 => Or.inl ((h1 n hn).1 i z1 z2 z3), fun c i j hc z1 z2 z3 z4 z5 => ⟨List.mem_append.mpr (Or.inl ((h1 n hn).2 c i j hc z1 z2 z3 z4 z5).1), Or.inl ((h1 n hn).2 c i j hc z1 z2 z3 z4 z5).2.1, Or.inl ((h1 n hn).2 c i j hc z1 z2 z3 z4 z5).2.2⟩⟩
  · exact ⟨fun i z1 z2 z3 => Or.inr ((h2 n hn).1 i z1 z2 z3), fun c i j hc z1 z2 z3 z4 z5 => ⟨List.mem_append.mpr (Or.inr ((h2 n hn).2 c i j hc z1 z2 z3 z4 z5).1), Or.inr ((h2 n hn).2 c i j hc z1 z2 z3 z4 z5).2.1, Or.inr ((h2 n hn).2 c i j hc z1 z2 z3 z4 z5).2.2⟩⟩
/-- what is wanted of the reference's memory -/
def RM (B : gM) (cp np : Nat) (F : Nat → Nat → Int32) (sz : Nat → Nat) : Prop := okc cp ∧ rO B cp ∧ B 183 1 = nI np ∧ np ≤ 40 ∧ PTr B np F ∧ ∀ c, c < np → F c 5 = nI (sz c)
def offT (N np : Nat) (A A' : gM) : Prop := ∀ a x, (a < 183 ∨ (a = 184 ∧ x < 6 * np) ∨ (192 ≤ a ∧ a < N) ∨ (a = 183 ∧ x ≠ 3 ∧ x ≠ 9 ∧ x ≠ 12 ∧ x ≠ 13)) → A' a x = A a x
section TU
variable {F : Nat → Nat → Int32} {sz : Nat → Nat} {np N cp : Nat} {res : Nat → (Nat × Nat) ⊕ Rw} {a d : Nat}
/-- the reference's way to the turning -/
theorem turned_start {B : gM} (hN : 193 ≤ N) (h : RM B cp np F sz) (ha : a < np) (hd : d < np) : ∃ B4, (∀ x w, (x < 183 ∨ (x = 184 ∧ w < 6 * np) ∨ (192 ≤ x ∧ x < N) ∨ (x = 183 ∧ w ≠ 3 ∧ w ≠ 9 ∧ w ≠ 12 ∧ w ≠ 13)) → B4 x w = B x w) ∧ rO B4 cp ∧ rW B4 cp 0 0 (fun _ => []) (fun _ => 0) ∧ B4 183 9 = nI 0 ∧ B4 183 12 = 0 ∧
    (B4 184 (6 * np + 0) = nI 4 ∧ B4 184 (6 * np + 1) = nI a ∧ B4 184 (6 * np + 2) = nI d) ∧
    ∀ B' cp' k n v B'' cp'' k'' n'' v'', mX6_turningFound N cp (mX6_found N 44) B4 (nI np) = some (B', (cp', k, n), v) → mX6_found_b5 N cp' (0 + (0 + k)) (0 + (0 + n)) (mX6_found N 44) B' (nI np) v = some (B'', (cp'', k'', n''), v'') → mX6_turned N cp B (nI a) (nI d) = some (B'', (cp'', 0 + (0 + 1) + (0 + k''), 0 + (0 + 6) + (0 + n'')), B'' 183 12) := by
  obtain ⟨h1, h2, h3, h4, h5, h6⟩ := h
  obtain ⟨B1, p1, p2, p3, p4⟩ := put_ok (N := N) (cp := cp) (s := 4) (x := nI a) (y := nI d) (z := -1) (l := -1) (sz := sz) hN h4 h3 (Or.inr ⟨a, ha, rfl⟩) (Or.inr ⟨d, hd, rfl⟩) (Or.inl rfl) (fun c hc => by rw [h5 c hc 5 (by omega)]; exact h6 c hc)
  obtain ⟨B4, hB4⟩ : ∃ B4, B4 = g_up (g_up (g_up (g_up B1 183 3 0) 183 9 0) 183 12 0) 183 13 (-1) := ⟨_, rfl⟩
  have o4 : ∀ a x, ¬ (a = 183 ∧ (x = 3 ∨ x = 9 ∨ x = 12 ∨ x = 13)) → B4 a x = B1 a x := fun a x q => by rw [hB4, up_get, if_neg (by omega), up_get, if_neg (by omega), up_get, if_neg (by omega), up_get, if_neg (by omega)]
  have hO4 : rO B4 cp := fun i hi => by rw [o4 _ _ (by omega), p4 _ _ (by omega) (by omega)]; exact h2 i hi
  refine ⟨B4, fun x w q => ?_, hO4, ⟨⟨by rw [hB4, up_p (by omega), up_p (by omega), up_p (by omega), up_s]; exact nI0.symm, h1, by omega, fun n hn => absurd hn (Nat.not_lt_zero n), hO4, fun n hn => absurd hn (Nat.not_lt_zero n)⟩, fun n hn => absurd hn.2 (Nat.not_lt_zero n), fun n hn => absurd hn (Nat.not_lt_zero n), Nat.le_refl 0⟩, by rw [hB4, up_p (by omega), up_p (by omega), up_s]; exact nI0.symm, by rw [hB4, up_p (by omega), up_s], ⟨by rw [o4 _ _ (by omega), p2.1, lq4], by rw [o4 _ _ (by omega), p2.2.1], by rw [o4 _ _ (by omega), p2.2.2.1]⟩, fun B' cp' k n v B'' cp'' k'' n'' v'' q1 q2 => ?_⟩
  · rw [o4 x w (by omega)]
    by_cases e : x = 184
    · subst e
      rw [p3 w (by omega)]
    · rw [p4 x w e (by omega)]
  · have e1 : B1 183 1 = nI np := by rw [p4 _ _ (by omega) (by omega)]; exact h3
    have p0 : mX6_pa cp B4 (nI np) 0 = some (B4, nI 4) := by rw [pa_0 h4, o4 _ _ (by omega), p2.1, lq4]
    have sf : mX6_sortFound N cp (mX6_found N 44) B4 (nI np) = some (B', (cp', 0 + k, 0 + n), v) := by
      unfold mX6_sortFound mX6_sortFound_b0 mX6_sortFound_b82
      simp (disch := omega) only [lq2, lq3, lq4, lq5, lq6, lq7, lq8, lq9, lq10, lq11, lq40, lq59, lq60, lq61, lq100, lq500, lq2600, lq5208, lq1000000, ltT, ltF, leT, leF, eqT, eqF, lt0F, le0F, le0T, ge0T, eq0T, eq0F, eqm1F, ten0, m1lt0, eq_self, nI_add, nI_1, sub1, addm1, addm2, subn, cl0, cl1, ncl, ginT, gin0, gin1, ↓reduceIte, if_true, if_false, Nat.add_sub_cancel, obe, ↓gle, true_or, or_true, ↓(bnd p0), ↓(bnd q1), eq1F]
    have fd : mX6_found N 45 cp B4 (nI np) = some (B'', (cp'', k'', n''), v'') := by
      show mX6_found_b0 N cp 0 0 (mX6_found N 44) B4 (nI np) = _
      unfold mX6_found_b0
      rw [bnd sf]; exact q2
    unfold mX6_turned mX6_turned_b0 mX6_turned_b9 mX6_turned_b17
    rw [bnd p1]
    dsimp only
    rw [e1]
    have ty : mX6_typeOf N cp B1 (nI np) = some (B'', (cp'', 0 + k'', 0 + n''), v'') := by
      unfold mX6_typeOf mX6_typeOf_b0 mX6_typeOf_b25
      rw [gle, gle, gle, gle, ← hB4, bnd fd]
    rw [bnd ty]
end TU
