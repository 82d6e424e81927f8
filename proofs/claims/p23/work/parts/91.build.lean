/-! BUILDING -/
section BU
variable {xs : Nat → Int32} {L : Nat}
theorem lbuild_L (hL : L ≤ 260) (m : Nat) (hm : m ≤ 33) : ∀ (f i N r n s : Nat) (ln : Nat → Nat) (A : gM), i ≤ m → m - i < f → n ≤ i → (1 ≤ i → 1 ≤ n) → N ≤ 184 + 3 * i → s ≤ 400000 * i → BI A ln N r n s → ∃ N' ln' A' r' n' s', mL_build_L22 xs L f N ln (1 + 20 * i) (300 * i) A r (nI m) (nI i) = some (N', ln', A', r') ∧ BI A' ln' N' r' n' s' ∧ N ≤ N' ∧ N' ≤ 184 + 3 * m ∧ n' ≤ m ∧ (1 ≤ m → 1 ≤ n') ∧ s' ≤ 400000 * m
  | 0, i, N, r, n, s, ln, A, _, hf, _, _, _, _, _ => by omega
  | f + 1, i, N, r, n, s, ln, A, hi, hf, hn, h1, hN, hs, hB => by
    show ∃ N' ln' A' r' n' s', mL_build_b22 xs L (mL_build_L22 xs L f) N ln (1 + 20 * i) (300 * i) A r (nI m) (nI i) = _ ∧ _
    by_cases e : i = m
    · subst e
      refine ⟨N, ln, A, r, n, s, ?_, hB, Nat.le_refl _, hN, hn, h1, hs⟩
      unfold mL_build_b22
      rw [if_pos (by rw [nle (by omega) (by omega)]; omega), if_pos (by omega)]
    · obtain ⟨c0, hc0⟩ := cell_ok (xs := xs) (L := L) (N := N) (ln := ln) (A := A) (i := i % 16) hL (by omega)
      have hr := (id hB)
      obtain ⟨c, F, sz, dp, res, -, ⟨-, -, hrN, -⟩, -⟩ := hr
      have e16 : nI i - nI i / 16 * 16 = nI (i % 16) := by rw [show (16 : Int32) = nI 16 by decide +kernel, nI_mod (by omega) (by omega)]
      obtain ⟨N1, ln1, A1, r1, n1, s1, q1, q2, q3, q4, q5, q6, q7, q8⟩ := more_ok (xs := xs) (L := L) (x := (c0 >>> (((nI i / 16) * 3) &&& 31)) + (349 * nI i)) hB (by omega) (by omega) (by omega)
      obtain ⟨N2, ln2, A2, r2, n2, s2, z1, z2, z3, z4⟩ := lbuild_L hL m hm f (i + 1) N1 r1 n1 s1 ln1 A1 (by omega) (by omega) (by omega) (fun _ => by omega) (by omega) (by omega) q2
      refine ⟨N2, ln2, A2, r2, n2, s2, ?_, z2, by omega, z4⟩
      unfold mL_build_b22
      rw [if_neg (by rw [nle (by omega) (by omega)]; omega), if_pos (by decide), if_pos (by omega), e16, cpd hc0, if_pos (Nat.le_refl _), if_pos (by decide), if_pos (by omega), cpd q1, if_pos q3, gle, nI_1, show 1 + 20 * i + 0 + 20 = 1 + 20 * (i + 1) by omega, show 300 * i + 0 + 300 = 300 * (i + 1) by omega, z1]
theorem lbuild_ok {A : gM} {ln : Nat → Nat} (hL : L ≤ 260) (hA : A 1 1 = nI 0) (hst : stI A 0) : ∃ N' ln' A' r' n' s', mL_build xs L 183 ln A = some (N', ln', A', r') ∧ BI A' ln' N' r' n' s' ∧ 183 ≤ N' ∧ N' ≤ 283 ∧ 1 ≤ n' ∧ n' ≤ 33 ∧ s' ≤ 13200000 := by
  obtain ⟨A0, hA0⟩ : ∃ f, f = g_row A 183 (fun _ => (-1 : Int32)) := ⟨_, rfl⟩
  obtain ⟨ln0, hl0⟩ : ∃ f, f = va_up ln 183 1000 := ⟨_, rfl⟩
  have oA : ∀ a x, a ≠ 183 → A0 a x = A a x := fun a x q => by rw [hA0, g_row_n q]
  have hB : BI A0 ln0 184 183 0 0 := ⟨fun _ => 0, fun _ _ => 0, fun _ => 0, fun _ => 0, fun _ => .inr [], ⟨by rw [oA _ _ (by omega)]; exact hA, by omega, stI_off hst (oA _ _ (by omega)) (funext fun x => oA _ _ (by omega)), fun p hp => by omega, fun p hp => by omega⟩, ⟨by omega, by omega, by omega, by omega, by rw [hl0, vaS rfl], fun j hj => by omega⟩, fun p hp => by omega, fun p hp => by omega⟩
  obtain ⟨c0, hc0⟩ := cell_ok (xs := xs) (L := L) (N := 184) (ln := ln0) (A := A0) (i := 0) hL (by omega)
  obtain ⟨j, hj, e⟩ := below_ok (A := A0) c0 (m := 26) (by omega) (by omega)
  obtain ⟨N', ln', A', r', n', s', z1, z2, z3, z4, z5, z6, z7⟩ := lbuild_L (xs := xs) hL (8 + j) (by omega) gF 0 184 183 0 0 ln0 A0 (by omega) (by unfold gF; omega) (by omega) (fun q => by omega) (by omega) (by omega) hB
  refine ⟨N', ln', A', r', n', s', ?_, z2, by omega, by omega, z6 (by omega), by omega, by omega⟩
  rw [nI0] at hc0 z1
  rw [show nI 26 = (26 : Int32) by decide +kernel] at e
  unfold mL_build mL_build_b0
  rw [if_pos ⟨⟨by decide, by decide⟩, by decide⟩, gle, gle, gle, cl0, ← hA0, ← hl0, if_pos (by omega), cpd hc0, if_pos (Nat.le_refl _), if_pos (by omega), bnd e]
  dsimp only
  rw [gle, lq8, nI_add]
  exact z1
end BU
