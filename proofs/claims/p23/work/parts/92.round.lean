/-! A ROUND OF THE LAW: what is made in it, and of which types -/
theorem vrs_shf {k : Nat} : ∀ (r : Rw), vrs (shf k r) = if vrs r = 0 then 0 else vrs r + k
  | [] => rfl
  | c :: r => by
    have ih := vrs_shf (k := k) r
    have e : shf k (c :: r) = (if c < 10 then c else c + k) :: shf k r := rfl
    rw [e, vrs_cons, vrs_cons, ih]
    by_cases q : c < 10
    · rw [if_pos q, show c - 9 = 0 by omega, Nat.zero_max, Nat.zero_max]
    · rw [if_neg q]
      by_cases z : vrs r = 0
      · rw [if_pos z, if_neg (by omega)]; omega
      · rw [if_neg z, if_neg (by omega)]; omega
theorem vrs_app : ∀ (a b : Rw), vrs (a ++ b) = max (vrs a) (vrs b)
  | [], b => by show vrs b = max 0 (vrs b); omega
  | c :: a, b => by
    rw [List.cons_append, vrs_cons, vrs_cons, vrs_app a b]; omega
theorem shf_at {k i c : Nat} {r : Rw} (h : r[i]? = some c) : (shf k r)[i]? = some (if c < 10 then c else c + k) := by
  unfold shf
  rw [List.getElem?_map, h]; rfl
section IF
variable {xs : Nat → Int32} {L N np s : Nat} {ln : Nat → Nat} {A : gM} {F : Nat → Nat → Int32} {sz dp : Nat → Nat} {res : Nat → (Nat × Nat) ⊕ Rw}
theorem a_t0 {p : Nat} (h : IC A np s F sz dp res) (hp : p < np) : mX5_type A (nI p) 0 = some (A, .inl (told (res p) 0)) := by have := a_type h hp (w := 0) (by omega); rw [nI0] at this; exact this
theorem a_t1 {p : Nat} (h : IC A np s F sz dp res) (hp : p < np) : mX5_type A (nI p) 1 = some (A, .inl (told (res p) 1)) := by have := a_type h hp (w := 1) (by omega); rw [← one_nI] at this; exact this
theorem a_t2 {p : Nat} (h : IC A np s F sz dp res) (hp : p < np) : mX5_type A (nI p) 2 = some (A, .inl (told (res p) 2)) := by rw [lq2]; exact a_type h hp (w := 2) (by omega)
theorem a_t3 {p : Nat} (h : IC A np s F sz dp res) (hp : p < np) : mX5_type A (nI p) 3 = some (A, .inl (told (res p) 3)) := by rw [lq3]; exact a_type h hp (w := 3) (by omega)
theorem a_p5 {p : Nat} (h : IC A np s F sz dp res) (hp : p < np) : mX5_part A (nI p) 5 = some (A, .inl (nI (sz p))) := by rw [lq5, a_part h hp (w := 5) (by omega), (h.2.2.2.2 p hp).2.2.1]
theorem a_c0 {p c : Nat} {R : Rw} (h : IC A np s F sz dp res) (hp : p < np) (e : res p = .inr (c :: R)) : mX5_code A (nI p) 0 = some (A, .inl (nI c)) := by have := a_code h hp (w := 0) (c := c) e rfl; rw [nI0] at this; exact this
theorem a_c1 {p c d : Nat} {R : Rw} (h : IC A np s F sz dp res) (hp : p < np) (e : res p = .inr (c :: d :: R)) : mX5_code A (nI p) 1 = some (A, .inl (nI d)) := by have := a_code h hp (w := 1) (c := d) e rfl; rw [← one_nI] at this; exact this
theorem a_n0 (h : IC A np s F sz dp res) : mX5_count A 0 = some (A, .inl (nI np)) := by have := a_count h; rw [nI0] at this; exact this
theorem isFault_L {al m : Nat} {x1 x2 : Int32} (h : IC A np s F sz dp res) (h1 : al < N) (h2 : 183 ≤ al) (h3 : ln al = m) (hm : m ≤ 4) (hv : ∀ j, j < m → ∃ p, p < np ∧ A al j = nI p ∧ told (res p) 0 = x1 ∧ told (res p) 1 = x2) : ∀ (f i : Nat), i ≤ m → m - i < f → mL_isFault_L11 xs L f N ln (4 * i) (24 * i) A x1 x2 al (nI m) (nI i) = some (N, ln, A, 1)
  | 0, i, _, hf => by omega
  | f + 1, i, hi, hf => by
    show mL_isFault_b11 xs L (mL_isFault_L11 xs L f) N ln (4 * i) (24 * i) A x1 x2 al (nI m) (nI i) = _
    unfold mL_isFault_b11
    by_cases e : i = m
    · rw [if_pos (by rw [nle (by omega) (by omega)]; omega), if_pos ⟨Or.inr rfl, by omega, by omega⟩]
    · obtain ⟨p, hp, e1, e2, e3⟩ := hv i (by omega)
      rw [if_neg (by rw [nle (by omega) (by omega)]; omega), if_pos ⟨⟨h1, h2, by omega⟩, ginT (by omega) (by omega)⟩, gle, ncl (by omega), e1, if_pos (by omega), cxd (a_t0 h hp), if_pos e2, if_pos (by omega), cxd (a_t1 h hp), if_pos e3, gle, nI_1, show 4 * i + 2 + 2 = 4 * (i + 1) by omega, show 24 * i + 6 * 2 + 6 * 2 = 24 * (i + 1) by omega]
      exact isFault_L h h1 h2 h3 hm hv f (i + 1) (by omega) (by omega)
theorem isFault_ok {al m : Nat} {x1 x2 : Int32} (h : IC A np s F sz dp res) (h1 : al < N) (h2 : 183 ≤ al) (h3 : ln al = m) (hm : m ≤ 4) (hv : ∀ j, j < m → ∃ p, p < np ∧ A al j = nI p ∧ told (res p) 0 = x1 ∧ told (res p) 1 = x2) : mL_isFault xs L N ln A x1 x2 al = some (N, ln, A, 1) := by
  have e := isFault_L (xs := xs) (L := L) h h1 h2 h3 hm hv gF 0 (by omega) (by unfold gF; omega)
  rw [nI0] at e
  unfold mL_isFault mL_isFault_b0
  rw [if_pos ⟨h1, h2, by omega⟩, gle, h3]
  exact e
end IF
/-- what a round stands on -/
def RB (n nm : Nat) (F : Nat → Nat → Int32) (sz : Nat → Nat) (res : Nat → (Nat × Nat) ⊕ Rw) : Prop := (∀ p, p < n → sz p ≤ 24 ∧ (F p 0 = nI 2 → F p 4 ≠ nI nm)) ∧ (F n 0 = nI 2 ∧ F n 4 = nI nm) ∧ res (n + 1) = .inr [2, 10, 10] ∧ res (n + 2) = .inr [1] ∧ sz n = 1 ∧ sz (n + 1) = 2 ∧ sz (n + 2) = 1
def Ext (m : Nat) (F : Nat → Nat → Int32) (sz : Nat → Nat) (res : Nat → (Nat × Nat) ⊕ Rw) (F' : Nat → Nat → Int32) (sz' : Nat → Nat) (res' : Nat → (Nat × Nat) ⊕ Rw) : Prop := ∀ p, p < m → (∀ w, F' p w = F p w) ∧ sz' p = sz p ∧ res' p = res p
theorem Ext_tr {m m' : Nat} {F F' F2 : Nat → Nat → Int32} {sz sz' sz2 : Nat → Nat} {res res' res2 : Nat → (Nat × Nat) ⊕ Rw} (hm : m ≤ m') (h1 : Ext m F sz res F' sz' res') (h2 : Ext m' F' sz' res' F2 sz2 res2) : Ext m F sz res F2 sz2 res2 := fun p hp => ⟨fun w => ((h2 p (by omega)).1 w).trans ((h1 p hp).1 w), (h2 p (by omega)).2.1.trans (h1 p hp).2.1, (h2 p (by omega)).2.2.trans (h1 p hp).2.2⟩
theorem RB_ext {n nm : Nat} {F F' : Nat → Nat → Int32} {sz sz' : Nat → Nat} {res res' : Nat → (Nat × Nat) ⊕ Rw} (h : RB n nm F sz res) (e : Ext (n + 3) F sz res F' sz' res') : RB n nm F' sz' res' := by
  obtain ⟨h1, h2, h3, h4, h5, h6, h7⟩ := h
  refine ⟨fun p hp => ?_, ?_, ?_, ?_, ?_, ?_, ?_⟩
  · rw [(e p (by omega)).2.1, (e p (by omega)).1 0, (e p (by omega)).1 4]; exact h1 p hp
  · rw [(e n (by omega)).1 0, (e n (by omega)).1 4]; exact h2
  · rw [(e _ (by omega)).2.2]; exact h3
  · rw [(e _ (by omega)).2.2]; exact h4
  · rw [(e _ (by omega)).2.1]; exact h5
  · rw [(e _ (by omega)).2.1]; exact h6
  · rw [(e _ (by omega)).2.1]; exact h7
/-- the types of what a round makes -/
def RT (n p q : Nat) (res : Nat → (Nat × Nat) ⊕ Rw) : Prop :=
  (res (n + 3) = res p ∧ res (n + 4) = res p ∧ res (n + 5) = res p) ∧
  (∀ e, res p = .inl e → res (n + 6) = .inl e ∧ res (n + 7) = .inl e ∧ res (n + 8) = .inl e ∧ res (n + 9) = .inl e) ∧
  (∀ r, res p = .inr r → res (n + 6) = if r.length + 2 ≤ 60 then .inr (2 :: 10 :: shf 1 r) else .inl (4, n + 6)) ∧
  (∀ r e, res p = .inr r → res q = .inl e → res (n + 7) = .inl e ∧ res (n + 8) = .inl e ∧ res (n + 9) = .inl e) ∧
  (∀ r r', res p = .inr r → res q = .inr r' → 1 + r.length + r'.length ≤ 60 → res (n + 7) = .inr (3 :: (r ++ shf (vrs r) r')) ∧ res (n + 8) = .inr r ∧ res (n + 9) = .inr r') ∧
  (∀ r r', res p = .inr r → res q = .inr r' → ¬ 1 + r.length + r'.length ≤ 60 → res (n + 7) = .inl (4, n + 7) ∧ res (n + 8) = .inl (4, n + 7) ∧ res (n + 9) = .inl (4, n + 7))
theorem Rs_num {F : Nat → Nat → Int32} {p : Nat} {r : Rw} (hp : p < 40) (h : Rs F p (.inr r)) : ∃ X, num0 X = r := by
  rcases Rs_use h (fr := 44) (by omega) gh_w gh_9 gh_p (by omega) with ⟨f, q, B', cp', k, n, e, -⟩ | ⟨r', u', T', ch', rr, B', cp', k, n, e, -, -, -, -, -, -, hnum, -⟩
  · cases e
  · cases e; exact ⟨_, hnum⟩
section R7
variable {A : gM} {n nm s p q : Nat} {F : Nat → Nat → Int32} {sz dp : Nat → Nat} {res : Nat → (Nat × Nat) ⊕ Rw}
theorem types7 (h : IC A (n + 10) s F sz dp res) (hb : RB n nm F sz res) (hn : n ≤ 24) (hnm : nm ≤ 9) (hp : p < n) (hq : q < n)
    (f3 : F (n + 3) 0 = nI 4 ∧ F (n + 3) 1 = nI (n + 1) ∧ F (n + 3) 2 = nI p)
    (f4 : F (n + 4) 0 = nI 5 ∧ F (n + 4) 1 = nI p ∧ F (n + 4) 2 = nI n ∧ F (n + 4) 4 = nI nm)
    (f5 : F (n + 5) 0 = nI 8 ∧ F (n + 5) 1 = nI (n + 2) ∧ F (n + 5) 2 = nI p ∧ F (n + 5) 3 = nI p)
    (f6 : F (n + 6) 0 = nI 3 ∧ F (n + 6) 1 = nI p ∧ F (n + 6) 4 = nI nm)
    (f7 : F (n + 7) 0 = nI 6 ∧ F (n + 7) 1 = nI p ∧ F (n + 7) 2 = nI q)
    (f8 : F (n + 8) 0 = nI 7 ∧ F (n + 8) 1 = nI (n + 7) ∧ F (n + 8) 4 = nI 0)
    (f9 : F (n + 9) 0 = nI 7 ∧ F (n + 9) 1 = nI (n + 7) ∧ F (n + 9) 4 = nI 1) : RT n p q res := by
  obtain ⟨b1, ⟨b2, b3⟩, b4, b5, -⟩ := hb
  have R : ∀ j, j < n + 10 → Rs F j (res j) ∧ resOK (res j) := fun j hj => (h.2.2.2.2 j hj).2.2.2.2.2.2
  have R1 := (R (n + 1) (by omega)).1
  have R2 := (R (n + 2) (by omega)).1
  rw [b4] at R1
  rw [b5] at R2
  obtain ⟨Rp, Op⟩ := R p (by omega)
  obtain ⟨Rq, Oq⟩ := R q (by omega)
  obtain ⟨S3, O3⟩ := R (n + 3) (by omega)
  obtain ⟨S4, O4⟩ := R (n + 4) (by omega)
  obtain ⟨S5, O5⟩ := R (n + 5) (by omega)
  obtain ⟨S6, O6⟩ := R (n + 6) (by omega)
  obtain ⟨S7, O7⟩ := R (n + 7) (by omega)
  obtain ⟨S8, O8⟩ := R (n + 8) (by omega)
  obtain ⟨S9, O9⟩ := R (n + 9) (by omega)
  have t3 := G_turn (by omega) (by omega) (by omega) f3.1 f3.2.1 f3.2.2 R1 Rp S3 Op O3
  have t4 := G_tell (l := nm) (by omega) (by omega) (by omega) hnm f4.1 f4.2.1 f4.2.2.1 f4.2.2.2 b2 b3 Rp S4 Op O4
  have t5 := G_choice (by omega) (by omega) (by omega) f5.1 f5.2.1 f5.2.2.1 f5.2.2.2 R2 Rp S5 Op O5
  have t6 := G_wheel (l := nm) (by omega) (by omega) hnm f6.1 f6.2.1 f6.2.2 (fun j hj => (b1 j (by omega)).2) Rp S6 Op O6
  have t7 := G_axle (by omega) (by omega) (by omega) f7.1 f7.2.1 f7.2.2 Rp Rq S7 Op Oq O7
  have t8 := fun (r r' : Rw) (h1 : Ty r) (h2 : Ty r') => G_end (l := 0) (by omega) (by omega) (by omega) f8.1 f8.2.1 f8.2.2 S7 S8 O7 O8 h1 h2
  have t9 := fun (r r' : Rw) (h1 : Ty r) (h2 : Ty r') => G_end (l := 1) (by omega) (by omega) (by omega) f9.1 f9.2.1 f9.2.2 S7 S9 O7 O9 h1 h2
  have tl : Ty [0] := by unfold Ty; decide
  have e8 := (t8 [0] [0] tl tl).1
  have e9 := (t9 [0] [0] tl tl).1
  have nm_ : ∀ {j : Nat} {r : Rw}, j < 40 → Rs F j (res j) → res j = .inr r → ∃ X, num0 X = r := fun {j r} hj hR e => by rw [e] at hR; exact Rs_num hj hR
  refine ⟨⟨t3, t4, t5⟩, fun e he => ?_, fun r hr => t6.2 r hr, fun r e hr he => ?_, fun r r' hr hr' hl => ?_, fun r r' hr hr' hl => ?_⟩
  · have := t7.1 e he
    exact ⟨t6.1 e he, this, e8 e this, e9 e this⟩
  · have := t7.2.1 r e hr he
    exact ⟨this, e8 e this, e9 e this⟩
  · have a := t7.2.2 r r' hr hr'
    rw [if_pos hl] at a
    have y1 := (Op.2 r hr).1
    have y2 := (Oq.2 r' hr').1
    have x1 := nm_ (by omega) Rp hr
    have x2 := nm_ (by omega) Rq hr'
    refine ⟨a, ?_, ?_⟩
    · have := (t8 r r' y1 y2).2 a x1 x2
      rw [if_pos rfl] at this; exact this
    · have := (t9 r r' y1 y2).2 a x1 x2
      rw [if_neg (by omega)] at this; exact this
  · have a := t7.2.2 r r' hr hr'
    rw [if_neg hl] at a
    exact ⟨a, e8 _ a, e9 _ a⟩
theorem makers7 (h : IC A (n + 3) s F sz dp res) (hb : RB n nm F sz res) (hn : n ≤ 24) (hnm : nm ≤ 9) (hp : p < n) (hq : q < n) (hs : s ≤ 1900000000) : ∃ A1 A2 A3 A4 A5 A6 A7 s7 F' sz' dp' res',
    mX5_turn A (nI (n + 1)) (nI p) = some (A1, .inl (nI (n + 3))) ∧ mX5_tell A1 (nI nm) (nI p) (nI n) = some (A2, .inl (nI (n + 4))) ∧ mX5_either A2 (nI (n + 2)) (nI p) (nI p) = some (A3, .inl (nI (n + 5))) ∧ mX5_wheel A3 (nI nm) (nI p) = some (A4, .inl (nI (n + 6))) ∧ mX5_axle A4 (nI p) (nI q) = some (A5, .inl (nI (n + 7))) ∧ mX5_end A5 (nI (n + 7)) (nI 0) = some (A6, .inl (nI (n + 8))) ∧ mX5_end A6 (nI (n + 7)) (nI 1) = some (A7, .inl (nI (n + 9))) ∧
    IC A7 (n + 10) s7 F' sz' dp' res' ∧ s7 ≤ s + 2800000 ∧ RB n nm F' sz' res' ∧ Ext (n + 3) F sz res F' sz' res' ∧ RT n p q res' := by
  obtain ⟨c1, -, -, -, c5, c6, c7⟩ := id hb
  have zp := (c1 p hp).1
  have zq := (c1 q hq).1
  obtain ⟨A1, s1, F1, sz1, dp1, r1, e1, b1, I1, ⟨x1, y1, z1⟩, -⟩ := m_turn (a := n + 1) (d := p) h (by omega) (by omega) (by omega) (by omega) (by omega)
  have u1 : ∀ j, j < n + 3 → sz1 j = sz j := fun j hj => (x1 j hj).2.1
  obtain ⟨A2, s2, F2, sz2, dp2, r2, e2, b2, I2, ⟨x2, y2, z2⟩, -⟩ := m_tell (j := nm) (a := p) (d := n) I1 (by omega) (by omega) (by omega) (by omega) (by omega) (by rw [u1 _ (by omega), u1 _ (by omega)]; omega)
  have u2 : ∀ j, j < n + 3 → sz2 j = sz j := fun j hj => (x2 j (by omega)).2.1.trans (u1 j hj)
  obtain ⟨A3, s3, F3, sz3, dp3, r3, e3, b3, I3, ⟨x3, y3, z3⟩, -⟩ := m_either (a := n + 2) (d := p) (e := p) I2 (by omega) (by omega) (by omega) (by omega) (by omega) (by rw [u2 _ (by omega), u2 _ (by omega)]; omega)
  have u3 : ∀ j, j < n + 3 → sz3 j = sz j := fun j hj => (x3 j (by omega)).2.1.trans (u2 j hj)
  obtain ⟨A4, s4, F4, sz4, dp4, r4, e4, b4, I4, ⟨x4, y4, z4⟩, -⟩ := m_wheel (j := nm) (a := p) I3 (by omega) (by omega) (by omega) (by omega) (by rw [u3 _ (by omega)]; omega)
  have u4 : ∀ j, j < n + 3 → sz4 j = sz j := fun j hj => (x4 j (by omega)).2.1.trans (u3 j hj)
  obtain ⟨A5, s5, F5, sz5, dp5, r5, e5, b5, I5, ⟨x5, y5, z5⟩, -⟩ := m_axle (a := p) (d := q) I4 (by omega) (by omega) (by omega) (by omega) (by rw [u4 _ (by omega), u4 _ (by omega)]; omega)
  have w5 : sz5 (n + 7) ≤ 49 := by
    have z5' : sz5 (n + 7) = 1 + szk sz4 (nI p) + szk sz4 (nI q) + szk sz4 (-1) := z5
    rw [szk_n, szk_c (by omega), szk_c (by omega), u4 _ (by omega), u4 _ (by omega)] at z5'
    omega
  obtain ⟨A6, s6, F6, sz6, dp6, r6, e6, b6, I6, ⟨x6, y6, z6⟩, -⟩ := m_end (a := n + 7) (j := 0) I5 (by omega) (by omega) (by omega) (by omega) (by omega)
  obtain ⟨A7, s7, F7, sz7, dp7, r7, e7, b7, I7, ⟨x7, y7, z7⟩, -⟩ := m_end (a := n + 7) (j := 1) I6 (by omega) (by omega) (by omega) (by omega) (by rw [(x6 (n + 7) (by omega)).2.1]; omega)
  have E6 : Ext (n + 9) F6 sz6 r6 F7 sz7 r7 := x7
  have E5 : Ext (n + 8) F5 sz5 r5 F7 sz7 r7 := Ext_tr (by omega) x6 E6
  have E4 : Ext (n + 7) F4 sz4 r4 F7 sz7 r7 := Ext_tr (by omega) x5 E5
  have E3 : Ext (n + 6) F3 sz3 r3 F7 sz7 r7 := Ext_tr (by omega) x4 E4
  have E2 : Ext (n + 5) F2 sz2 r2 F7 sz7 r7 := Ext_tr (by omega) x3 E3
  have E1 : Ext (n + 4) F1 sz1 r1 F7 sz7 r7 := Ext_tr (by omega) x2 E2
  have E0 : Ext (n + 3) F sz res F7 sz7 r7 := Ext_tr (by omega) x1 E1
  have hb7 := RB_ext hb E0
  refine ⟨A1, A2, A3, A4, A5, A6, A7, s7, F7, sz7, dp7, r7, e1, e2, e3, e4, e5, e6, e7, I7, by omega, hb7, E0, ?_⟩
  have g1 := (E1 (n + 3) (by omega)).1
  have g2 := (E2 (n + 4) (by omega)).1
  have g3 := (E3 (n + 5) (by omega)).1
  have g4 := (E4 (n + 6) (by omega)).1
  have g5 := (E5 (n + 7) (by omega)).1
  have g6 := (E6 (n + 8) (by omega)).1
  exact types7 I7 hb7 hn hnm hp hq ⟨(g1 0).trans y1.1, (g1 1).trans y1.2.1, (g1 2).trans y1.2.2.1⟩ ⟨(g2 0).trans y2.1, (g2 1).trans y2.2.1, (g2 2).trans y2.2.2.1, (g2 4).trans y2.2.2.2.2⟩ ⟨(g3 0).trans y3.1, (g3 1).trans y3.2.1, (g3 2).trans y3.2.2.1, (g3 3).trans y3.2.2.2.1⟩ ⟨(g4 0).trans y4.1, (g4 1).trans y4.2.1, (g4 4).trans y4.2.2.2.2⟩ ⟨(g5 0).trans y5.1, (g5 1).trans y5.2.1, (g5 2).trans y5.2.2.1⟩ ⟨(g6 0).trans y6.1, (g6 1).trans y6.2.1, (g6 4).trans y6.2.2.2.2⟩ ⟨y7.1, y7.2.1, y7.2.2.2.2⟩
end R7
