/-! THE LAW, RUN TO ITS END -/
theorem end_T {L i : Nat} (hL : L ≤ 2048) (hi : i ≤ 4000) (h : L < i + 4) (h0 : 4 ≤ L ∨ i = 0) : (Int32.ofNat L) - 4 < nI i := by
  rw [ofN]
  by_cases e : 4 ≤ L
  · rw [lq4, subn e, nlt (by omega) (by omega)]
    omega
  · have hi0 : i = 0 := by omega
    subst hi0
    have : L = 0 ∨ L = 1 ∨ L = 2 ∨ L = 3 := by omega
    rcases this with rfl | rfl | rfl | rfl <;> decide +kernel
theorem end_F {L i : Nat} (hL : L ≤ 2048) (hi : i ≤ 4000) (h : i + 4 ≤ L) : ¬ (Int32.ofNat L) - 4 < nI i := by
  rw [ofN, lq4, subn (by omega), nlt (by omega) (by omega)]
  omega
theorem law_L {xs : Nat → Int32} {L : Nat} (hL : L ≤ 2048) : ∀ (f j cp k n : Nat) (A : gM), 4 * j ≤ L → L - 4 * j < f → LI j cp k n A → mL_law_L23 xs L f cp k n A (nI (4 * j)) = some ()
  | 0, j, _, _, _, _, _, hf, _ => by omega
  | f + 1, j, cp, k, n, A, hj, hf, hI => by
    show mL_law_b23 xs L (mL_law_L23 xs L f) cp k n A (nI (4 * j)) = some ()
    by_cases e : 4 * j + 4 ≤ L
    · have hend := end_F (i := 4 * j) hL (by omega) e
      have hg0 : g_in (nI (4 * j)) L = true := ginT (by omega) (by omega)
      have hg1 : g_in (nI (4 * j) + 1) L = true := by rw [nI_1]; exact ginT (by omega) (by omega)
      have hg2 : g_in (nI (4 * j) + 2) L = true := by rw [lq2, nI_add]; exact ginT (by omega) (by omega)
      have hg3 : g_in (nI (4 * j) + 3) L = true := by rw [lq3, nI_add]; exact ginT (by omega) (by omega)
      have h4 : nI (4 * j) + 4 = nI (4 * (j + 1)) := by rw [lq4, nI_add, show 4 * j + 4 = 4 * (j + 1) by omega]
      have hK : ∀ cp' k' n' A', LI (j + 1) cp' k' n' A' → mL_law_L23 xs L f cp' k' n' A' (nI (4 * j) + 4) = some () := fun cp' k' n' A' h => by
        rw [h4]
        exact law_L hL f (j + 1) cp' k' n' A' (by omega) (by omega) h
      have hj5 : j < 513 := by omega
      by_cases c0 : (xs (nI (4 * j)).toNatClampNeg) &&& 31 = 0
      · exact law_plain hend hg0 hg1 hg2 hg3 hj5 hI hK c0
      by_cases c1 : (xs (nI (4 * j)).toNatClampNeg) &&& 31 = 1
      · exact law_name hend hg0 hg1 hg2 hg3 hj5 hI hK c1
      by_cases c2 : (xs (nI (4 * j)).toNatClampNeg) &&& 31 = 2
      · exact law_wheel hend hg0 hg1 hg2 hg3 hj5 hI hK c2
      by_cases c3 : (xs (nI (4 * j)).toNatClampNeg) &&& 31 = 3
      · exact law_turn hend hg0 hg1 hg2 hg3 hj5 hI hK c3
      by_cases c4 : (xs (nI (4 * j)).toNatClampNeg) &&& 31 = 4
      · exact law_tell hend hg0 hg1 hg2 hg3 hj5 hI hK c4
      by_cases c5 : (xs (nI (4 * j)).toNatClampNeg) &&& 31 = 5
      · exact law_axle hend hg0 hg1 hg2 hg3 hj5 hI hK c5
      by_cases c6 : (xs (nI (4 * j)).toNatClampNeg) &&& 31 = 6
      · exact law_end hend hg0 hg1 hg2 hg3 hj5 hI hK c6
      by_cases c7 : (xs (nI (4 * j)).toNatClampNeg) &&& 31 = 7
      · exact law_either hend hg0 hg1 hg2 hg3 hj5 hI hK c7
      by_cases c8 : (xs (nI (4 * j)).toNatClampNeg) &&& 31 = 8
      · exact law_undo hend hg0 hg1 hg2 hg3 hj5 hI hK c8
      by_cases c9 : (xs (nI (4 * j)).toNatClampNeg) &&& 31 = 9
      · exact law_part hend hg0 hg1 hg2 hg3 hj5 hI hK c9
      by_cases c10 : (xs (nI (4 * j)).toNatClampNeg) &&& 31 = 10
      · exact law_type hend hg0 hg1 hg2 hg3 hj5 hI hK c10
      by_cases c11 : (xs (nI (4 * j)).toNatClampNeg) &&& 31 = 11
      · exact law_code hend hg0 hg1 hg2 hg3 hj5 hI hK c11
      by_cases c12 : (xs (nI (4 * j)).toNatClampNeg) &&& 31 = 12
      · exact law_count hend hg0 hg1 hg2 hg3 hj5 hI hK c12
      by_cases c13 : (xs (nI (4 * j)).toNatClampNeg) &&& 31 = 13
      · exact law_same hend hg0 hg1 hg2 hg3 hj5 hI hK c13
      by_cases c14 : (xs (nI (4 * j)).toNatClampNeg) &&& 31 = 14
      · exact law_fits hend hg0 hg1 hg2 hg3 hj5 hI hK c14
      by_cases c15 : (xs (nI (4 * j)).toNatClampNeg) &&& 31 = 15
      · exact law_goes hend hg0 hg1 hg2 hg3 hj5 hI hK c15
      by_cases c16 : (xs (nI (4 * j)).toNatClampNeg) &&& 31 = 16
      · exact law_first hend hg0 hg1 hg2 hg3 hj5 hI hK c16
      by_cases c17 : (xs (nI (4 * j)).toNatClampNeg) &&& 31 = 17
      · exact law_longest hend hg0 hg1 hg2 hg3 hj5 hI hK c17
      by_cases c18 : (xs (nI (4 * j)).toNatClampNeg) &&& 31 = 18
      · exact law_mean hend hg0 hg1 hg2 hg3 hj5 hI hK c18
      by_cases c19 : (xs (nI (4 * j)).toNatClampNeg) &&& 31 = 19
      · exact law_digest hend hg0 hg1 hg2 hg3 hj5 hI hK c19
      unfold mL_law_b23
      rw [if_neg hend, if_pos hg0, if_neg c0, if_neg c1, if_neg c2, if_neg c3, if_neg c4, if_neg c5, if_neg c6, if_neg c7, if_neg c8, if_neg c9, if_neg c10, if_neg c11, if_neg c12, if_neg c13, if_neg c14, if_neg c15, if_neg c16, if_neg c17, if_neg c18, if_neg c19]
      unfold mL_law_b1322
      rw [gle]
      refine hK _ _ _ _ ?_
      obtain ⟨np, s, F, sz, dp, res, hI2, b1, b2, b3⟩ := hI
      exact ⟨np, s, F, sz, dp, res, hI2, by omega, by omega, by omega⟩
    · have hend := end_T (i := 4 * j) hL (by omega) (by omega) (by omega)
      obtain ⟨np, s, F, sz, dp, res, hI2, b1, b2, b3⟩ := hI
      unfold mL_law_b23
      rw [if_pos hend, if_pos (LI_lim hI2.2.2.2.1 (by omega) b1 b2)]
theorem INV_0 : INV (fun _ _ => 0) 500 0 0 (fun _ _ => 0) (fun _ => 0) (fun _ => 0) (fun _ => .inr []) :=
  ⟨nI0.symm, by omega, nI0.symm, Or.inl rfl, fun _ _ => Or.inl rfl, ⟨nI0.symm, fun _ _ => ⟨0, by omega, nI0.symm⟩⟩, fun p hp => absurd hp (Nat.not_lt_zero p), fun p hp => absurd hp (Nat.not_lt_zero p)⟩
theorem law_runs {xs : Nat → Int32} {L : Nat} (hL : L ≤ 2048) : mL_law_L23 xs L gF 500 193 34696 (fun _ _ => 0) 0 = some () := by
  have := law_L (xs := xs) hL gF 0 500 193 34696 (fun _ _ => 0) (by omega) (by unfold gF; omega) ⟨0, 0, fun _ _ => 0, fun _ => 0, fun _ => 0, fun _ => .inr [], INV_0, by omega, by omega, by omega⟩
  rw [Nat.mul_zero, nI0] at this
  exact this
