/-! THE WHOLE LAW -/
section LW
variable {xs : Nat → Int32} {L : Nat} {K84 : Nat → (Nat → Nat) → Nat → Nat → gM → Int32 → Int32 → Int32 → Int32 → Int32 → Int32 → Option Unit} {n nm t S NB B p q N k nn s : Nat} {ln : Nat → Nat} {A : gM} {F : Nat → Nat → Int32} {sz dp : Nat → Nat} {res : Nat → (Nat × Nat) ⊕ Rw} {r r' : Rw}
set_option maxRecDepth 20000 in
theorem all_L {al s0 : Nat} (c : CT K84 n nm t S NB B p q F sz res) (hN1 : 183 ≤ N) (hN : N + 1 ≤ NB) (h1 : al < N) (h2 : 183 ≤ al) (h3 : ln al = 3) (hS : s0 + 1200000 ≤ S) (hS2 : S ≤ 1900000000) : ∀ (f i k nn s : Nat) (A : gM), i ≤ 3 → 3 - i < f → IC A (n + 10) s F sz dp res → s ≤ s0 + 400000 * i → (∀ j, j < 3 → A al j = nI (n + 3 + j)) → k + (B + 1006 + 8 * (3 - i)) ≤ 600130 → nn + 6 * (B + 1006 + 8 * (3 - i)) ≤ 7301080 → mL_law_L284 xs L K84 f N ln k nn A (nI n) (nI nm) (nI n) (nI (n + 1)) (nI (n + 2)) (nI t) (nI p) (nI q) (told (res p) 0) (told (res p) 1) (nI (n + 6)) (nI (n + 7)) (nI (n + 8)) (nI (n + 9)) al (nI 3) (nI i) = some ()
  | 0, i, k, nn, s, A, _, hf, _, _, _, _, _ => by omega
  | f + 1, i, k, nn, s, A, hi, hf, h, hs, ha, k1, k2 => by
    obtain ⟨c1, c2, ⟨⟨d1, d2, d3⟩, -⟩, c4, c5, c6⟩ := id c
    show mL_law_b284 xs L K84 (mL_law_L284 xs L K84 f) N ln k nn A (nI n) (nI nm) (nI n) (nI (n + 1)) (nI (n + 2)) (nI t) (nI p) (nI q) (told (res p) 0) (told (res p) 1) (nI (n + 6)) (nI (n + 7)) (nI (n + 8)) (nI (n + 9)) al (nI 3) (nI i) = _
    unfold mL_law_b284
    by_cases e : i = 3
    · rw [if_pos (by rw [nle (by omega) (by omega)]; omega)]
      exact l359 c h (by omega) hN1 hN (by omega) (by omega)
    · have ex : res (n + 3 + i) = res p := by
        have : i = 0 ∨ i = 1 ∨ i = 2 := by omega
        rcases this with rfl | rfl | rfl
        · exact d1
        · exact d2
        · exact d3
      have a0 := a_t0 h (show n + 3 + i < n + 10 by omega)
      have a1 := a_t1 h (show n + 3 + i < n + 10 by omega)
      obtain ⟨A1, s1, v, g1, -, g2, g3, g4⟩ := a_goes h (show n + 1 < n + 10 by omega) (show n + 3 + i < n + 10 by omega) c2.2.2.1 (by omega)
      rw [ex] at a0 a1 g1
      have hs' : s1 ≤ s0 + 400000 * (i + 1) := by rw [Nat.mul_succ, ← Nat.add_assoc]; exact Nat.le_trans g2 (Nat.add_le_add_right hs 400000)
      have go : ∀ k nn, k + (B + 1006 + 8 * (3 - (i + 1)) + 2) ≤ 600130 → nn + 6 * (B + 1006 + 8 * (3 - (i + 1)) + 2) ≤ 7301080 → mL_law_b338 xs L K84 (mL_law_L284 xs L K84 f) N ln k nn A (nI n) (nI nm) (nI n) (nI (n + 1)) (nI (n + 2)) (nI t) (nI p) (nI q) (told (res p) 0) (told (res p) 1) (nI (n + 6)) (nI (n + 7)) (nI (n + 8)) (nI (n + 9)) al (nI 3) (nI i) (nI (n + 3 + i)) = some () := fun k nn k1 k2 => by
        unfold mL_law_b338
        rw [if_pos (by omega), cxd g1, if_pos rfl, gle, nI_1]
        exact all_L c hN1 hN h1 h2 h3 hS hS2 f (i + 1) _ _ s1 A1 (by omega) (by omega) g3 hs' (fun j hj => by rw [g4 _ _ h2]; exact ha j hj) (by omega) (by omega)
      rw [if_neg (by rw [nle (by omega) (by omega)]; omega), if_pos ⟨⟨h1, h2, by omega⟩, ginT (by omega) (by omega)⟩, gle, ncl (by omega), ha i (by omega)]
      unfold mL_law_b298
      rw [if_pos (by omega), cxd a0, if_pos rfl]
      unfold mL_law_b310
      rw [if_pos (by omega), cxd a1, if_pos rfl]
      rcases pdec (res p) with ⟨f', w', e'⟩ | ⟨r, e'⟩
      · have hb := faultB h (by omega) e'
        rw [if_neg (by rw [(told_f e').1, eq0F (by omega) (by omega)]; exact not_false)]
        exact go _ _ (by omega) (by omega)
      · have sm := a_same h (show n + 3 + i < n + 10 by omega) (show p < n + 10 by omega) (ex.trans e') e'
        rw [if_pos (told_r e').1]
        unfold mL_law_b327
        rw [if_pos (by omega), cxd sm, if_neg (by decide)]
        exact go _ _ (by omega) (by omega)
set_option maxRecDepth 20000 in
theorem l252 (c : CT K84 n nm t S NB B p q F sz res) (h : IC A (n + 10) s F sz dp res) (hs : s + 1200000 ≤ S) (hS : S ≤ 1900000000) (hN1 : 183 ≤ N) (hN : N + 2 ≤ NB) (k1 : k + (B + 1031) ≤ 600130) (k2 : nn + 6 * (B + 1031) ≤ 7301080) : mL_law_b252 xs L K84 N ln k nn A (nI n) (nI nm) (nI n) (nI (n + 1)) (nI (n + 2)) (nI t) (nI p) (nI q) (told (res p) 0) (told (res p) 1) (nI (n + 3)) (nI (n + 4)) (nI (n + 5)) (nI (n + 6)) (nI (n + 7)) (nI (n + 8)) (nI (n + 9)) = some () := by
  have c2 : (2 : Int32).toNatClampNeg = 2 := by decide
  have c3 : (3 : Int32).toNatClampNeg = 3 := by decide
  have hg : ∀ w : Int32, g_in w 3 = true → ((N < N + 1 ∧ 183 ≤ N ∧ va_up ln N (3 : Int32).toNatClampNeg N < 1000) ∧ g_in w (va_up ln N (3 : Int32).toNatClampNeg N) = true) := fun w hw => by
    rw [vaS rfl]
    exact ⟨⟨by omega, hN1, by decide⟩, hw⟩
  obtain ⟨A', hA'⟩ : ∃ A', A' = g_up (g_up (g_up (g_row A N (fun _ => 0)) N 0 (nI (n + 3))) N 1 (nI (n + 4))) N 2 (nI (n + 5)) := ⟨_, rfl⟩
  have h' : IC A' (n + 10) s F sz dp res := IC_arr h hN1 (fun a w q => by rw [hA', up_c q, up_c q, up_c q, g_row_n q])
  have e := all_L (xs := xs) (L := L) (N := N + 1) (ln := va_up ln N 3) (al := N) (s0 := s) c (by omega) (by omega) (by omega) hN1 (vaS rfl) hs hS gF 0 (k + 1) (nn + 3) s A' (by omega) (by unfold gF; omega) h' (by omega) (fun j hj => by
    have : j = 0 ∨ j = 1 ∨ j = 2 := by omega
    rcases this with rfl | rfl | rfl
    · rw [hA', up_p (by omega), up_p (by omega), up_s]
    · rw [hA', up_p (by omega), up_s]
    · rw [hA', up_s]) (by omega) (by omega)
  rw [nI0] at e
  unfold mL_law_b252
  rw [if_pos ⟨⟨by decide, by decide⟩, by rw [c3]; omega⟩, gle, gle, gle, if_pos (hg 0 (by decide)), gle, if_pos (hg 1 (by decide)), gle, if_pos (hg 2 (by decide)), gle, c2, c3, cl0, cl1, ← hA']
  have v3 : va_up ln N 3 N = 3 := vaS rfl
  unfold mL_law_b272
  rw [if_pos ⟨by omega, hN1, by omega⟩, gle, v3]
  exact e
set_option maxRecDepth 20000 in
theorem l91 (hK : HK K84 n nm t S NB B) (hb : RB n nm F sz res) (h : IC A (n + 3) s F sz dp res) (hL : L ≤ 260) (hn1 : 1 ≤ n) (hn : n ≤ 24) (hnm : nm ≤ 9) (ht : t < 16) (hs : s + 4000000 ≤ S) (hS : S ≤ 1900000000) (hN1 : 183 ≤ N) (hN : N + 2 ≤ NB) (k1 : k + (B + 1100) ≤ 600130) (k2 : nn + 6 * (B + 1100) ≤ 7301080) : mL_law_b91 xs L K84 N ln k nn A (nI n) (nI nm) (nI n) (nI (n + 1)) (nI (n + 2)) (nI t) = some () := by
  obtain ⟨x0, hx0⟩ := cell_ok (xs := xs) (L := L) (N := N) (ln := ln) (A := A) (i := t) hL (by omega)
  obtain ⟨p, hp, ep⟩ := below_ok (A := A) x0 (m := n) hn1 (by omega)
  obtain ⟨q, hq, eq⟩ := below_ok (A := A) (x0 >>> (3 &&& 31)) (m := n) hn1 (by omega)
  have zp := a_p5 h (show p < n + 3 by omega)
  have zq := a_p5 h (show q < n + 3 by omega)
  have bp := (hb.1 p hp).1
  have bq := (hb.1 q hq).1
  have t0 := a_t0 h (show p < n + 3 by omega)
  have t1 := a_t1 h (show p < n + 3 by omega)
  obtain ⟨A1, A2, A3, A4, A5, A6, A7, s7, F', sz', dp', res', e1, e2, e3, e4, e5, e6, e7, I7, b7, rb, ext, rt⟩ := makers7 h hb hn hnm hp hq (by omega)
  rw [← (ext p (by omega)).2.2] at t0 t1
  rw [nI0] at e6
  rw [← one_nI] at e7
  have cn := a_n0 I7
  have fin := l252 (xs := xs) (L := L) (ln := ln) (N := N) (k := k + 0 + 0 + 2 + 2 + 2 + 2 + 3 + 4 + 4 + 3 + 3 + 3 + 3 + 1) (nn := nn + 0 + 0 + 6 * 2 + 6 * 2 + 6 * 2 + 6 * 2 + 6 * 3 + 6 * 4 + 6 * 4 + 6 * 3 + 6 * 3 + 6 * 3 + 6 * 3 + 6 * 1) ⟨hK, rb, rt, hn, hp, hq⟩ I7 (by omega) hS hN1 hN (by omega) (by omega)
  unfold mL_law_b91
  rw [if_pos (by omega), cpd hx0, if_pos (Nat.le_refl _), if_pos (by omega), bnd ep]
  dsimp only
  unfold mL_law_b103
  rw [if_pos (by omega), cpd hx0, if_pos (Nat.le_refl _), if_pos (by omega), bnd eq]
  dsimp only
  unfold mL_law_b117
  rw [if_pos (by omega), cxd zp, if_neg (by rw [lq24, nlt (by omega) (by omega)]; omega)]
  unfold mL_law_b129
  rw [if_pos (by omega), cxd zq, if_pos (by rw [lq24, nle (by omega) (by omega)]; omega)]
  unfold mL_law_b143
  rw [if_pos (by omega), cxd t0, if_pos (by omega), cxd t1]
  unfold mL_law_b161
  rw [if_pos (by omega), cxd e1]
  unfold mL_law_b171
  rw [if_pos (by omega), cxd e2]
  unfold mL_law_b183
  rw [if_pos (by omega), cxd e3]
  unfold mL_law_b195
  rw [if_pos (by omega), cxd e4]
  unfold mL_law_b205
  rw [if_pos (by omega), cxd e5]
  unfold mL_law_b215
  rw [if_pos (by omega), cxd e6]
  unfold mL_law_b224
  rw [if_pos (by omega), cxd e7]
  unfold mL_law_b233
  rw [if_neg (nlt0 (by omega)), if_pos (by omega), cxd cn, if_pos (by rw [sub1 (by omega)]; rfl)]
  exact fin
theorem lq16 : (16 : Int32) = nI 16 := by decide +kernel
set_option maxRecDepth 20000 in
theorem l84_L (hL : L ≤ 260) (hn1 : 1 ≤ n) (hn : n ≤ 24) (hnm : nm ≤ 9) : ∀ (f t N k nn s : Nat) (ln : Nat → Nat) (A : gM) (F : Nat → Nat → Int32) (sz dp : Nat → Nat) (res : Nat → (Nat × Nat) ⊕ Rw), t ≤ 16 → 16 - t < f → IC A (n + 3) s F sz dp res → RB n nm F sz res → s ≤ 20000000 + 4000000 * t → 183 ≤ N → N ≤ 300 + 2 * t → k + (10 + 1100 * (16 - t)) ≤ 600130 → nn + 6 * (10 + 1100 * (16 - t)) ≤ 7301080 → mL_law_L84 xs L f N ln k nn A (nI n) (nI nm) (nI n) (nI (n + 1)) (nI (n + 2)) (nI t) = some ()
  | 0, t, N, k, nn, s, ln, A, F, sz, dp, res, _, hf, _, _, _, _, _, _, _ => by omega
  | f + 1, t, N, k, nn, s, ln, A, F, sz, dp, res, ht, hf, h, hb, hs, hN1, hN, k1, k2 => by
    show mL_law_b84 xs L (mL_law_L84 xs L f) N ln k nn A (nI n) (nI nm) (nI n) (nI (n + 1)) (nI (n + 2)) (nI t) = _
    unfold mL_law_b84
    by_cases e : t = 16
    · have cn := a_n0 h
      have n3 : nI (n + 3) = nI n + 3 := by rw [lq3, nI_add]
      unfold mL_law_b896
      rw [if_pos (by rw [lq16, nle (by omega) (by omega)]; omega), if_pos (by omega), cxd cn, if_pos n3, if_pos ⟨rfl, by omega, by omega⟩]
    · rw [if_neg (by rw [lq16, nle (by omega) (by omega)]; omega)]
      refine l91 (S := 20000000 + 4000000 * (t + 1)) (NB := 300 + 2 * (t + 1)) (B := 10 + 1100 * (16 - (t + 1))) ?_ hb h hL hn1 hn hnm (by omega) (by omega) (by omega) hN1 (by omega) (by omega) (by omega)
      intro N' k' nn' s' ln' A' F' sz' dp' res' g1 g2 g3 g4 g5 g6 g7
      exact l84_L hL hn1 hn hnm f (t + 1) N' k' nn' s' ln' A' F' sz' dp' res' (by omega) (by omega) g1 g2 g3 g4 g5 g6 g7
theorem prep3 (h : IC A n s F sz dp res) (hb : ∀ p, p < n → sz p ≤ 24 ∧ (F p 0 = nI 2 → ∃ l, l < 3 ∧ F p 4 = nI l)) (hn : n ≤ 24) (hnm : 3 ≤ nm) (hnm9 : nm ≤ 9) (hs : s ≤ 1900000000) : ∃ A1 A2 A3 s3 F' sz' dp' res', mX5_name A (nI nm) = some (A1, .inl (nI n)) ∧ mX5_wheel A1 (nI nm) (nI n) = some (A2, .inl (nI (n + 1))) ∧ mX5_plain A2 (nI 1) = some (A3, .inl (nI (n + 2))) ∧ IC A3 (n + 3) s3 F' sz' dp' res' ∧ s3 ≤ s + 1200000 ∧ RB n nm F' sz' res' := by
  obtain ⟨A1, s1, F1, sz1, dp1, r1, e1, b1, I1, ⟨x1, y1, z1⟩, -⟩ := m_name (j := nm) h (by omega) (by omega) (by omega) (by omega)
  have w1 : sz1 n = 1 := by rw [z1, szk_n]
  obtain ⟨A2, s2, F2, sz2, dp2, r2, e2, b2, I2, ⟨x2, y2, z2⟩, -⟩ := m_wheel (j := nm) (a := n) I1 (by omega) (by omega) (by omega) (by omega) (by rw [w1]; omega)
  have w2 : sz2 (n + 1) = 2 := by rw [z2, szk_n, szk_c (by omega), w1]
  obtain ⟨A3, s3, F3, sz3, dp3, r3, e3, b3, I3, ⟨x3, y3, z3⟩, -⟩ := m_plain (j := 1) I2 (by omega) (by omega) (by omega) (by omega)
  have w3 : sz3 (n + 2) = 1 := by
    have z3' : sz3 (n + 2) = 1 + szk sz2 (-1) + szk sz2 (-1) + szk sz2 (-1) := z3
    rw [z3', szk_n]
  have E2 : Ext (n + 2) F2 sz2 r2 F3 sz3 r3 := x3
  have E1 : Ext (n + 1) F1 sz1 r1 F3 sz3 r3 := Ext_tr (by omega) x2 E2
  have E0 : Ext n F sz res F3 sz3 r3 := Ext_tr (by omega) x1 E1
  have R : ∀ j, j < n + 3 → Rs F3 j (r3 j) ∧ resOK (r3 j) := fun j hj => (I3.2.2.2.2 j hj).2.2.2.2.2.2
  have a0 : F3 n 0 = nI 2 := ((E1 n (by omega)).1 0).trans y1.1
  have a4 : F3 n 4 = nI nm := ((E1 n (by omega)).1 4).trans y1.2.2.2.2
  have q0 : F3 (n + 1) 0 = nI 3 := ((E2 (n + 1) (by omega)).1 0).trans y2.1
  have q1 : F3 (n + 1) 1 = nI n := ((E2 (n + 1) (by omega)).1 1).trans y2.2.1
  have q4 : F3 (n + 1) 4 = nI nm := ((E2 (n + 1) (by omega)).1 4).trans y2.2.2.2.2
  have f0 : F3 (n + 2) 0 = nI 1 := y3.1
  refine ⟨A1, A2, A3, s3, F3, sz3, dp3, r3, e1, e2, e3, I3, by omega, fun p hp => ⟨by rw [(E0 p hp).2.1]; exact (hb p hp).1, fun e => ?_⟩, ⟨a0, a4⟩, ?_, ?_, by rw [(E1 n (by omega)).2.1]; exact w1, by rw [(E2 _ (by omega)).2.1]; exact w2, w3⟩
  · rw [(E0 p hp).1 0] at e
    obtain ⟨l, hl, el⟩ := (hb p hp).2 e
    rw [(E0 p hp).1 4, el, ne_eq, neq (by omega) (by omega)]
    omega
  · exact G_same (l := nm) (by omega) (by omega) (by omega) q0 q1 q4 a0 a4 (R (n + 1) (by omega)).1 (R (n + 1) (by omega)).2
  · exact G_flag (by omega) f0 (R (n + 2) (by omega)).1 (R (n + 2) (by omega)).2
set_option maxRecDepth 20000 in
theorem l23_L (hL : L ≤ 260) (hN1 : 183 ≤ N) (hN : N ≤ 290) : ∀ (f n k nn s : Nat) (A : gM), 1 ≤ n → n ≤ 33 → n - 24 < f → IC A n s F sz dp res → (∀ p, p < n → sz p ≤ 24 ∧ (F p 0 = nI 2 → ∃ l, l < 3 ∧ F p 4 = nI l)) → s ≤ 13200000 → k + (20000 + n) ≤ 600130 → nn + 6 * (20000 + n) ≤ 7301080 → mL_law_L23 xs L f N ln k nn A (nI n) = some ()
  | 0, n, k, nn, s, A, _, _, hf, _, _, _, _, _ => by omega
  | f + 1, n, k, nn, s, A, hn1, hn, hf, h, hb, hs, k1, k2 => by
    show mL_law_b23 xs L (mL_law_L23 xs L f) N ln k nn A (nI n) = _
    unfold mL_law_b23
    by_cases e : n ≤ 24
    · obtain ⟨x0, hx0⟩ := cell_ok (xs := xs) (L := L) (N := N) (ln := ln) (A := A) (i := 1) hL (by omega)
      rw [← one_nI] at hx0
      obtain ⟨j, hj, ej⟩ := below_ok (A := A) x0 (m := 7) (by omega) (by omega)
      rw [← lq7] at ej
      obtain ⟨A1, A2, A3, s3, F', sz', dp', res', e1, e2, e3, I3, b3, rb⟩ := prep3 (nm := 3 + j) h hb e (by omega) (by omega) (by omega)
      rw [← one_nI] at e3
      have fin := l84_L (xs := xs) hL hn1 e (show 3 + j ≤ 9 by omega) gF 0 N (k + 0 + 0 + 2 + 3 + 2) (nn + 0 + 0 + 6 * 2 + 6 * 3 + 6 * 2) s3 ln A3 F' sz' dp' res' (by omega) (by unfold gF; omega) I3 rb (by omega) hN1 (by omega) (by omega) (by omega)
      rw [nI0] at fin
      rw [if_pos (by rw [lq24, nle (by omega) (by omega)]; exact e), if_pos (by omega), cpd hx0, if_pos (Nat.le_refl _), if_pos (by omega), bnd ej]
      dsimp only
      rw [gle, lq3, nI_add]
      unfold mL_law_b56
      rw [if_pos (by omega), cxd e1]
      unfold mL_law_b64
      rw [if_pos (by omega), cxd e2]
      unfold mL_law_b74
      rw [if_pos (by omega), cxd e3]
      exact fin
    · obtain ⟨A1, e1, e2, e3⟩ := a_undo h hn1
      rw [if_neg (by rw [lq24, nle (by omega) (by omega)]; exact e), addm1 hn1, gle, if_pos (by omega), cxd e1, if_pos rfl]
      exact l23_L hL hN1 hN f (n - 1) _ _ s A1 (by omega) (by omega) (by omega) e2 (fun p hp => hb p (by omega)) hs (by omega) (by omega)
set_option maxRecDepth 20000 in
theorem law_runs (hL : L ≤ 260) : mL_law_b8 xs L 183 (fun _ => 500) 183 31813 (fun _ _ => 0) = some () := by
  obtain ⟨N', ln', A', r', n', s', e1, ⟨c, F, sz, dp, res, hIC, ⟨p1, p2, p3, p4, p5, p6⟩, hz, hb⟩, e3, e4, e5, e6, e7⟩ := lbuild_ok (xs := xs) (L := L) (A := fun _ _ => 0) (ln := fun _ => 500) hL nI0.symm ⟨nI0.symm, fun n hn => ⟨0, Nat.le_refl _, nI0.symm⟩⟩
  unfold mL_law_b8
  rw [if_pos (by omega), cpd e1, if_pos e3, if_pos ⟨p3, p4, by omega⟩, gle, p5, show 1000 + n' - 1000 = n' by omega]
  exact l23_L hL (by omega) (by omega) gF n' _ _ s' A' e5 e6 (by unfold gF; omega) hIC hb e7 (by omega) (by omega)
end LW
