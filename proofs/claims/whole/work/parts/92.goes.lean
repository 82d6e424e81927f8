/-! TURNING ASKED -/
section GO
variable {A : gM} {cp np s : Nat} {F : Nat → Nat → Int32} {sz dp : Nat → Nat} {res : Nat → (Nat × Nat) ⊕ Rw}
theorem LOK_askT {rC : Option (gM × Int32)} {rR : gM → Option (gM × (Nat × Nat × Nat) × Int32)} (h : INV A cp np s F sz dp res) {A1 : gM} {v : Int32} {s1 : Nat} (e1 : rC = some (g_up A1 192 0 v, 0)) (o1 : sameA A A1) (st : stI A1 s1) (hs1 : s1 ≤ s + 400000) (e2 : ∀ C, INV (g_up C 183 0 0) cp np s1 F sz dp res → ∃ A2 cp' k n, rR C = some (A2, (cp', k, n), v) ∧ costB cp cp' k n 200 12000 ∧ offT 193 np (g_up C 183 0 0) A2 ∧ rO A2 cp') : LOK cp s rC rR := by
  have hB : INV (g_up (g_up A1 192 0 v) 183 0 0) cp np s1 F sz dp res := INV_off h (fun a x q => by rw [up_get, if_neg (by omega), up_get, if_neg (by omega)]; exact o1 a x (by omega)) h.2.2.2.1 (fun i hi => by rw [up_c (by omega), up_c (by omega), o1 _ _ (by omega)]; exact h.2.2.2.2.1 i hi) (stI_off st (by rw [up_c (by omega), up_c (by omega)]) (funext fun x => by rw [up_c (by omega), up_c (by omega)]))
  obtain ⟨A2, cp', k, n, q1, q2, q3, q4⟩ := e2 _ hB
  exact ⟨_, 0, e1, A2, cp', k, n, v, q1, by rw [q3 _ _ (by omega), up_s], fun _ => by rw [q3 _ _ (by omega), up_c (by omega), up_s], q2, np, s1, F, sz, dp, res, INV_off hB (fun a x q => q3 _ _ (by omega)) q2.1 q4 (stI_off hB.2.2.2.2.2.1 (q3 _ _ (by omega)) (funext fun x => q3 _ _ (by omega))), hs1⟩
theorem offT_tr {N : Nat} {B C D : gM} (h1 : offT N np B C) (h2 : offT N np C D) : offT N np B D := fun a x q => (h2 a x q).trans (h1 a x q)
theorem RM_offT {B B' : gM} {cp' : Nat} (h : RM B cp np F sz) (o : offT 193 np B B') (hc : okc cp') (hO : rO B' cp') : RM B' cp' np F sz := ⟨hc, hO, by rw [o _ _ (by omega)]; exact h.2.2.1, h.2.2.2.1, fun p hp w hw => by rw [o _ _ (by omega)]; exact h.2.2.2.2.1 p hp w hw, h.2.2.2.2.2⟩
theorem sameA_Q {A1 : gM} (o : offQ A A1) : sameA A A1 := fun a x q => o a x (by omega)
theorem stored_Q {A1 : gM} {p : Nat} {r : (Nat × Nat) ⊕ Rw} (hp : p < 40) (o : offQ A A1) (h : stored A p r) : stored A1 p r := stored_off hp (fun x => o _ _ (by omega)) (fun x => o _ _ (by omega)) h
theorem turn_at (h : INV A cp np s F sz dp res) {a d : Nat} (ha : a < np) (hd : d < np) {A0 : gM} {s0 : Nat} (o : offQ A A0) (hst : stI A0 s0) (hs : s0 + 2700 ≤ 1999990000) :
    ∃ A1 s1 v, v ≤ 4 ∧ mX5_faultOfTurning A0 (nI a) (nI d) = some (A1, nI v) ∧ stI A1 s1 ∧ s1 ≤ s0 + 2601 ∧ offQ A0 A1 ∧
      ∀ (cp : Nat) (B : gM), RM B cp np F sz → ∃ B' cp' k n, mX6_turned 193 cp B (nI a) (nI d) = some (B', (cp', k, n), nI v) ∧ costB cp cp' k n 1 6 ∧ offT 193 np B B' ∧ rO B' cp' := by
  have hn := h.2.1
  obtain ⟨a1, a2, a3⟩ := inv_in h ha
  obtain ⟨d1, d2, d3⟩ := inv_in h hd
  obtain ⟨A1, s1, v, e1, e2, e3, e4, e5, e6⟩ := turned_ok (np := np) (F := F) (sz := sz) (res := res) ha hd hn (stored_Q a3 o a1) (stored_Q d3 o d1) (h.2.2.2.2.2.2.2 a ha).2.2.2.2.2.2.1 (h.2.2.2.2.2.2.2 d hd).2.2.2.2.2.2.1 a2 d2 hst hs
  exact ⟨A1, s1, v, e1, e2, e3, e4, e5, fun cp B hB => e6 193 cp B (Nat.le_refl _) hB⟩
theorem k_goes (h : INV A cp np s F sz dp res) (hs : s + 360001 ≤ 1999990000) (x1 x2 : Int32) : LOK cp s (mL_goes A x1 x2) (fun B => mX6_goes 193 cp B x1 x2) := by
  have hn := h.2.1
  have hA0 : g_up A 183 0 0 183 1 = nI np := by rw [up_p (by omega)]; exact h.2.2.1
  rcases inR_dec x1 np with i1 | i1
  rotate_left
  · refine LOK_no h ?_ ?_
    · have t : mX5_goes A x1 x2 = some (A, .inr 0) := by
        unfold mX5_goes mX5_goes_b0
        rw [bnd (part_no h.1 hn i1)]
        all_goals rfl
      unfold mL_goes mL_goes_b0
      rw [bnd t]
      dsimp only [g_ct]
      simp only [↓reduceIte]
    · show mX6_goes 193 cp A x1 x2 = _
      unfold mX6_goes mX6_goes_b0 mX6_goes_b30 mX6_goes_b35
      rw [gle, bnd (isPart_no hA0 hn i1)]
      dsimp only
      rw [if_pos rfl, rfail0, obe, up_up]
  rcases inR_dec x2 np with i2 | i2
  rotate_left
  · refine LOK_no h ?_ ?_
    · have t : mX5_goes A x1 x2 = some (A, .inr 0) := by
        unfold mX5_goes mX5_goes_b0
        rw [bnd (part_ok h.1 hn i1)]
        dsimp only [g_tr]
        rw [bnd (part_no h.1 hn i2)]
        all_goals rfl
      unfold mL_goes mL_goes_b0
      rw [bnd t]
      dsimp only [g_ct]
      simp only [↓reduceIte]
    · show mX6_goes 193 cp A x1 x2 = _
      unfold mX6_goes mX6_goes_b0 mX6_goes_b30 mX6_goes_b35
      rw [gle, bnd (isPart_ok hA0 hn i1)]
      dsimp only
      rw [if_neg (by decide), bnd (isPart_no hA0 hn i2)]
      dsimp only
      rw [if_pos rfl, rfail0, obe, up_up]
  obtain ⟨a, ha, rfl⟩ := id i1
  obtain ⟨b, hb, rfl⟩ := id i2
  obtain ⟨A1, s1, v, e1, e2, e3, e4, e5, e6⟩ := turn_at h ha hb (fun _ _ _ => rfl) h.2.2.2.2.2.1 (by omega)
  refine LOK_askT (v := nI v) (A1 := A1) (s1 := s1) h ?_ (sameA_Q e5) e3 (by omega) (fun C hC => ?_)
  · have t : mX5_goes A (nI a) (nI b) = some (A1, .inl (nI v)) := by
      unfold mX5_goes mX5_goes_b0
      rw [bnd (part_ok h.1 hn i1)]
      dsimp only [g_tr]
      rw [bnd (part_ok h.1 hn i2)]
      dsimp only [g_tr]
      rw [bnd e2]
    unfold mL_goes mL_goes_b0
    rw [bnd t]
    dsimp only [g_ct]
    rw [if_pos (by decide), gle, cl0]
  · obtain ⟨B', cp', k, n, f1, f2, f3, f4⟩ := e6 cp _ (INV_RM hC)
    refine ⟨B', cp', 0 + k, 0 + n, ?_, by rw [Nat.zero_add, Nat.zero_add]; exact costB_le f2 (by omega) (by omega), f3, f4⟩
    unfold mX6_goes mX6_goes_b0 mX6_goes_b27 mX6_goes_b35
    rw [gle, bnd (isPart_ok hC.2.2.1 hn i1)]
    dsimp only
    rw [if_neg (by decide), bnd (isPart_ok hC.2.2.1 hn i2)]
    dsimp only
    rw [if_neg (by decide), bnd f1]
theorem first_L (h : INV A cp np s F sz dp res) (hs : s + 360001 ≤ 1999990000) {a : Nat} (ha : a < np) : ∀ (f i : Nat) (A0 : gM) (s0 : Nat), i ≤ np → np - i < f → offQ A A0 → stI A0 s0 → s0 + 2601 * (np - i) ≤ s + 2601 * np → ∃ A1 s1 v, mX5_first_L7 f A0 (nI a) (nI i) = some (A1, .inl v) ∧ stI A1 s1 ∧ s1 ≤ s + 2601 * np ∧ offQ A A1 ∧
      ∀ (g cp1 k n : Nat) (B : gM), np - i < g → RM B cp1 np F sz → ∃ B' cp' k' n', mX6_first_L21 193 g cp1 k n B (nI a) (nI i) = some (B', (cp', k + k', n + n'), v) ∧ costB cp1 cp' k' n' (np - i) (6 * (np - i)) ∧ offT 193 np B B' ∧ rO B' cp'
  | 0, i, _, _, _, hf, _, _, _ => by omega
  | f + 1, i, A0, s0, hi, hf, o, hst, hb => by
    have hn := h.2.1
    have m0 : mX2_made A0 = some (A0, nI np) := by unfold mX2_made mX2_made_b0; rw [o _ _ (by omega), h.1]
    by_cases e : i = np
    · refine ⟨A0, s0, -1, ?_, hst, by omega, o, fun g cp1 k n B hg hB => ?_⟩
      · show mX5_first_b7 (mX5_first_L7 f) A0 (nI a) (nI i) = _
        unfold mX5_first_b7
        rw [bnd m0]
        dsimp only
        rw [if_pos (by rw [nle (by omega) (by omega)]; omega)]
      · obtain ⟨g, rfl⟩ : ∃ g', g = g' + 1 := ⟨g - 1, by omega⟩
        refine ⟨B, cp1, 0, 0, ?_, ⟨hB.1, by omega, by omega, by omega⟩, fun _ _ _ => rfl, hB.2.1⟩
        show mX6_first_b21 193 cp1 k n (mX6_first_L21 193 g) B (nI a) (nI i) = _
        unfold mX6_first_b21
        rw [hB.2.2.1, if_pos (by rw [nle (by omega) (by omega)]; omega)]
        rfl
    · have hmul : 2601 * (np - i) = 2601 * (np - (i + 1)) + 2601 := by omega
      obtain ⟨A1, s1, v, e1, e2, e3, e4, e5, e6⟩ := turn_at h ha (show i < np by omega) o hst (by omega)
      have o2 : offQ A A1 := fun x y q => (e5 x y q).trans (o x y q)
      by_cases z : v = 0
      · subst z
        refine ⟨A1, s1, nI i, ?_, e3, by omega, o2, fun g cp1 k n B hg hB => ?_⟩
        · show mX5_first_b7 (mX5_first_L7 f) A0 (nI a) (nI i) = _
          unfold mX5_first_b7
          rw [bnd m0]
          dsimp only
          rw [if_neg (by rw [nle (by omega) (by omega)]; omega), bnd e2]
          dsimp only
          rw [if_pos nI0]
        · obtain ⟨g, rfl⟩ : ∃ g', g = g' + 1 := ⟨g - 1, by omega⟩
          obtain ⟨B', cp', k', n', f1, f2, f3, f4⟩ := e6 cp1 B hB
          refine ⟨B', cp', k', n', ?_, costB_le f2 (by omega) (by omega), f3, f4⟩
          show mX6_first_b21 193 cp1 k n (mX6_first_L21 193 g) B (nI a) (nI i) = _
          unfold mX6_first_b21 mX6_first_b35
          rw [hB.2.2.1, if_neg (by rw [nle (by omega) (by omega)]; omega), bnd f1]
          dsimp only
          rw [if_pos nI0]
      · obtain ⟨A2, s2, w, g1, g2, g3, g4, g5⟩ := first_L h hs ha f (i + 1) A1 s1 (by omega) (by omega) o2 e3 (by omega)
        refine ⟨A2, s2, w, ?_, g2, g3, g4, fun g cp1 k n B hg hB => ?_⟩
        · show mX5_first_b7 (mX5_first_L7 f) A0 (nI a) (nI i) = _
          unfold mX5_first_b7
          rw [bnd m0]
          dsimp only
          rw [if_neg (by rw [nle (by omega) (by omega)]; omega), bnd e2]
          dsimp only
          rw [if_neg (by rw [eq0F (by omega) (by omega)]; exact not_false), gle, nI_1, g1]
        · obtain ⟨g, rfl⟩ : ∃ g', g = g' + 1 := ⟨g - 1, by omega⟩
          obtain ⟨B1, c1, k1, n1, f1, f2, f3, f4⟩ := e6 cp1 B hB
          obtain ⟨B', cp', k', n', j1, j2, j3, j4⟩ := g5 g c1 (k + k1) (n + n1) B1 (by omega) (RM_offT hB f3 f2.1 f4)
          refine ⟨B', cp', k1 + k', n1 + n', ?_, costB_le (costB_tr f2 j2) (by omega) (by omega), offT_tr f3 j3, j4⟩
          show mX6_first_b21 193 cp1 k n (mX6_first_L21 193 g) B (nI a) (nI i) = _
          unfold mX6_first_b21 mX6_first_b35
          rw [hB.2.2.1, if_neg (by rw [nle (by omega) (by omega)]; omega), bnd f1]
          dsimp only
          rw [if_neg (by rw [eq0F (by omega) (by omega)]; exact not_false), gle, nI_1, j1, Nat.add_assoc, Nat.add_assoc]
theorem k_first (h : INV A cp np s F sz dp res) (hs : s + 360001 ≤ 1999990000) (x1 : Int32) : LOK cp s (mL_first A x1) (fun B => mX6_first 193 cp B x1) := by
  have hn := h.2.1
  have hA0 : g_up A 183 0 0 183 1 = nI np := by rw [up_p (by omega)]; exact h.2.2.1
  rcases inR_dec x1 np with i1 | i1
  rotate_left
  · refine LOK_no h ?_ ?_
    · have t : mX5_first A x1 = some (A, .inr 0) := by
        unfold mX5_first mX5_first_b0
        rw [bnd (part_no h.1 hn i1)]
        all_goals rfl
      unfold mL_first mL_first_b0
      rw [bnd t]
      dsimp only [g_ct]
      simp only [↓reduceIte]
    · show mX6_first 193 cp A x1 = _
      unfold mX6_first mX6_first_b0
      rw [gle, bnd (isPart_no hA0 hn i1)]
      dsimp only
      rw [if_pos rfl, rfail0, obe, up_up]
  obtain ⟨a, ha, rfl⟩ := id i1
  obtain ⟨A1, s1, v, e1, e2, e3, e4, e5⟩ := first_L h hs ha gF 0 A s (by omega) (by unfold gF; omega) (fun _ _ _ => rfl) h.2.2.2.2.2.1 (by omega)
  refine LOK_askT (v := v) (A1 := A1) (s1 := s1) h ?_ (sameA_Q e4) e2 (by omega) (fun C hC => ?_)
  · have t : mX5_first A (nI a) = some (A1, .inl v) := by
      unfold mX5_first mX5_first_b0
      rw [bnd (part_ok h.1 hn i1)]
      dsimp only [g_tr]
      rw [← nI0, e1]
    unfold mL_first mL_first_b0
    rw [bnd t]
    dsimp only [g_ct]
    rw [if_pos (by decide), gle, cl0]
  · obtain ⟨B', cp', k, n, f1, f2, f3, f4⟩ := e5 gF cp 0 0 _ (by unfold gF; omega) (INV_RM hC)
    refine ⟨B', cp', 0 + k, 0 + n, ?_, by rw [Nat.zero_add, Nat.zero_add]; exact costB_le f2 (by omega) (by omega), f3, f4⟩
    unfold mX6_first mX6_first_b0
    rw [gle, bnd (isPart_ok hC.2.2.1 hn i1)]
    dsimp only
    rw [if_neg (by decide), ← nI0]
    exact f1
end GO
