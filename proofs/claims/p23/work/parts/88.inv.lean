/-! THE CLASS BETWEEN CALLS, BY ITSELF -/
def told (res : (Nat × Nat) ⊕ Rw) (w : Nat) : Int32 := match res with
  | .inl (f, q) => if w = 0 then nI f else if w = 1 then nI q else 0
  | .inr r => if w = 0 then 0 else if w = 1 then -1 else if w = 2 then nI r.length else if w = 3 then nI (vrs r) else nI (dep r)
def rowOf (res : (Nat × Nat) ⊕ Rw) : Rw := match res with
  | .inl _ => []
  | .inr r => r
/-- the class takes a kept row and builds it -/
theorem brow_L {p : Nat} {R : Rw} (hp : p < 40) (hl : R.length ≤ 60) : ∀ (f i : Nat) (A : gM), rowIn A (45 + p) R → i ≤ R.length → R.length - i < f → (∀ j c, j < i → R[j]? = some c → A 182 j = nI c) → ∃ A', mX0_buildRow_L10 f A (nI p) (nI R.length) (nI i) = (mX4_build A' 182 (nI R.length)).bind (fun q1 => some (q1.1, q1.2)) ∧ rowIn A' 182 R ∧ ∀ a x, a ≠ 182 → A' a x = A a x
  | 0, i, A, _, _, hf, _ => by omega
  | f + 1, i, A, hr, hi, hf, hd => by
    show ∃ A', mX0_buildRow_b10 (mX0_buildRow_L10 f) A (nI p) (nI R.length) (nI i) = _ ∧ _
    unfold mX0_buildRow_b10 mX0_buildRow_b43
    by_cases e : i = R.length
    · subst e
      exact ⟨A, by rw [if_pos (by rw [nle (by omega) (by omega)]; omega)], fun j c hj => hd j c (List.getElem?_eq_some_iff.mp hj).1 hj, fun _ _ _ => rfl⟩
    · obtain ⟨c, hg, -, -⟩ := drop_at (R := R) (k := i) (by omega)
      have hca := codeAt_k (A := A) (p := p) (i := i) hp (by omega)
      obtain ⟨A', e1, e2, e3⟩ := brow_L hp hl f (i + 1) (g_up A 182 i (A (45 + p) i)) (fun j c hj => by rw [up_c (by omega)]; exact hr j c hj) (by omega) (by omega) (fun j c hj hjc => by
        by_cases z : j = i
        · subst z; rw [up_s]; exact hr j c hjc
        · rw [up_p z]; exact hd j c (by omega) hjc)
      refine ⟨A', ?_, e2, fun a x q => by rw [e3 a x q, up_c q]⟩
      rw [if_neg (by rw [nle (by omega) (by omega)]; omega), lq60, if_neg (by rw [nle (by omega) (by omega)]; omega), bnd hca]
      dsimp only
      rw [ginT (by omega) (by omega), if_pos rfl, gle, gle, ncl (by omega), nI_1, e1]
theorem buildRow_ok {A : gM} {u : Nat} {T : Nat → Rw} {ch : Nat → Nat} {p : Nat} {R : Rw} (h : sT A u T ch) (hp : p < 40) (hk : kept A p 0 (-1) R) (hR : Ty R) (hl : R.length ≤ 60) (hc : ∀ c ∈ R, c < 4 ∨ (10 ≤ c ∧ c < 70)) (hu : u + 60 ≤ 2600) :
    ∃ A' u' T' ch' r g, mX0_buildRow A (nI p) = some (A', nI r) ∧ sT A' u' T' ch' ∧ u ≤ u' ∧ u' ≤ u + 60 ∧ r < u' ∧ T' r = exR g T R ∧ (∀ n, n < u → T' n = T n) ∧
      (∀ c ∈ R, 10 ≤ c → c < 100 → u ≤ g (c - 10) ∧ g (c - 10) < u') ∧ (∀ c ∈ R, ∀ d ∈ R, 10 ≤ c → c < 100 → 10 ≤ d → d < 100 → g (c - 10) = g (d - 10) → c = d) ∧ ∀ a x, (a < 129 ∨ a = 133 ∨ (137 < a ∧ a ≠ 182) ∨ (a = 129 ∧ x ≠ 9)) → A' a x = A a x := by
  obtain ⟨A1, e1, e2, e3⟩ := brow_L hp hl gF 0 A hk.2.2.2.2.2 (by omega) (by unfold gF; omega) (fun j c hj => by omega)
  have s1 : sameS A A1 := ⟨e3 _ _ (by omega), funext fun x => e3 _ x (by omega), funext fun x => e3 _ x (by omega), funext fun x => e3 _ x (by omega)⟩
  obtain ⟨A', u', T', ch', r, g, b1, b2, b3, b4, b5, b6, b7, b8, b9, b10, b11⟩ := build_ok (sT_same s1 h) (x1 := 182) (Or.inl rfl) hR hl (fun c hc' => by have := hc c hc'; omega) e2 (by omega)
  refine ⟨A', u', T', ch', r, g, ?_, b2, b3, by omega, b5, b6, b7, fun c hc' q1 q2 => ⟨(b10 c hc' q1 q2).1, (b10 c hc' q1 q2).2.1⟩, b11, fun a x q => by rw [b9 a x (by omega) (by omega) (by omega) (by omega) (by omega) (by omega), e3 a x (by omega)]⟩
  have f2 := fact3_2 (A := A) hp
  rw [hk.2.2.1] at f2
  rw [nI0] at e1
  unfold mX0_buildRow mX0_buildRow_b0
  rw [bnd f2]
  dsimp only
  rw [e1, bnd b1]
def kid (np : Nat) (x : Int32) : Prop := x = -1 ∨ ∃ c, c < np ∧ x = nI c
def szk (sz : Nat → Nat) (x : Int32) : Nat := if x = -1 then 0 else sz x.toNatClampNeg
theorem szk_n {sz : Nat → Nat} : szk sz (-1) = 0 := if_pos rfl
theorem szk_c {sz : Nat → Nat} {c : Nat} (h : c ≤ 40) : szk sz (nI c) = sz c := by unfold szk; rw [if_neg (by rw [eqm1F (by omega)]; exact not_false), ncl (by omega)]
theorem pdec : ∀ x : (Nat × Nat) ⊕ Rw, (∃ f q, x = .inl (f, q)) ∨ ∃ r, x = .inr r
  | .inl (f, q) => Or.inl ⟨f, q, rfl⟩
  | .inr r => Or.inr ⟨r, rfl⟩
theorem U_f : ∀ (f : Nat) {a b : Rw} {n : Nat}, U f a b = some (.inl n) → 2 ≤ n ∧ n ≤ 3
  | 0, a, b, n, h => by cases h
  | f + 1, a, b, n, h => by
    rcases U_cases h with ⟨-, e⟩ | ⟨x, a', y, b', rfl, rfl, -, hc⟩
    · cases e
    · rcases hc with ⟨-, -, e⟩ | ⟨-, -, e⟩ | ⟨-, -, -, e⟩ | ⟨-, -, -, e⟩ | ⟨-, -, -, e⟩ | ⟨-, -, -, hc⟩
      · cases e; omega
      · cases e
      · cases e; omega
      · cases e
      · cases e; omega
      · rcases hc with ⟨m, h1, e⟩ | ⟨b1, h1, hc⟩
        · cases e; exact U_f f h1
        · rcases hc with ⟨m, h2, e⟩ | ⟨b2, h2, e⟩
          · cases e; exact U_f f h2
          · cases e
/-- what class frames leave as they are -/
def offQ (A A' : gM) : Prop := ∀ a x, (a < 126 ∨ a = 128 ∨ (137 < a ∧ a ≠ 182)) → A' a x = A a x
def PW (np : Nat) (F : Nat → Nat → Int32) (sz dp : Nat → Nat) (res : Nat → (Nat × Nat) ⊕ Rw) : Prop := ∀ p, p < np → prt F sz p ∧ sz p ≤ 60 ∧ F p 5 = nI (sz p) ∧ (kid p (F p 1) ∧ kid p (F p 2) ∧ kid p (F p 3)) ∧ dp p = 1 + max (szk dp (F p 1)) (max (szk dp (F p 2)) (szk dp (F p 3))) ∧ dp p ≤ p + 1 ∧ Rs F p (res p) ∧ resOK (res p)
def IC (A : gM) (np s : Nat) (F : Nat → Nat → Int32) (sz dp : Nat → Nat) (res : Nat → (Nat × Nat) ⊕ Rw) : Prop :=
  A 1 1 = nI np ∧ np ≤ 40 ∧ stI A s ∧ (∀ p, p < np → (∀ w, w < 6 → A (3 + p) w = F p w) ∧ A (3 + p) 6 = nI (dp p) ∧ stored A p (res p)) ∧ PW np F sz dp res
/-- numbers in a range, and not -/
def inR (x : Int32) (n : Nat) : Prop := ∃ j, j < n ∧ x = nI j
def notR (x : Int32) (n : Nat) : Prop := x < 0 ∨ ∃ j, n ≤ j ∧ j < 2 ^ 31 ∧ x = nI j
theorem inR_dec (x : Int32) (n : Nat) : inR x n ∨ notR x n := by
  by_cases h : x < 0
  · exact Or.inr (Or.inl h)
  · obtain ⟨j, h1, h2⟩ := nI_of h
    by_cases q : j < n
    · exact Or.inl ⟨j, q, h2⟩
    · exact Or.inr (Or.inr ⟨j, by omega, h1, h2⟩)
theorem place_ok {A : gM} {x : Int32} {n : Nat} (hn : n ≤ 1000) (h : inR x n) : mX5_needPlace A x (nI n) = some (A, .inl 0) := by
  obtain ⟨j, h1, rfl⟩ := h
  unfold mX5_needPlace mX5_needPlace_b0
  rw [if_neg (nlt0 (by omega)), if_pos (by rw [nlt (by omega) (by omega)]; exact h1)]
theorem part_ok {A : gM} {x : Int32} {np : Nat} (h : A 1 1 = nI np) (hn : np ≤ 40) (hx : inR x np) : mX5_needPart A x = some (A, .inl 0) := by
  unfold mX5_needPart mX5_needPart_b0 mX2_made mX2_made_b0
  rw [obe]
  dsimp only
  rw [h, bnd (place_ok (by omega) hx)]; rfl
theorem betw_ok {A : gM} {x hi : Int32} {n : Nat} (hn : n ≤ 1000) (h1 : 1 ≤ n) (hh : hi = nI (n - 1)) (h : inR x n) : mX5_needBetween A x 0 hi = some (A, .inl 0) := by
  obtain ⟨j, h2, rfl⟩ := h
  unfold mX5_needBetween mX5_needBetween_b0
  rw [if_neg (nlt0 (by omega)), hh, if_pos (by rw [nle (by omega) (by omega)]; omega)]
/-- memories that differ where nothing is kept -/
theorem stored_off {A A' : gM} {p : Nat} {res : (Nat × Nat) ⊕ Rw} (hp : p < 40) (o : ∀ x, A' (86 + p) x = A (86 + p) x) (o2 : ∀ x, A' (45 + p) x = A (45 + p) x) (h : stored A p res) : stored A' p res := by
  have k : ∀ {f q : Int32} {R : Rw}, kept A p f q R → kept A' p f q R := fun ⟨k1, k2, k3, k4, k5, k6⟩ => ⟨by rw [o]; exact k1, by rw [o]; exact k2, by rw [o]; exact k3, by rw [o]; exact k4, by rw [o]; exact k5, fun i c hi => by rw [o2]; exact k6 i c hi⟩
  exact ⟨fun f q e => k (h.1 f q e), fun r e => k (h.2 r e)⟩
theorem IC_off {A A' : gM} {np s s' : Nat} {F : Nat → Nat → Int32} {sz dp : Nat → Nat} {res : Nat → (Nat × Nat) ⊕ Rw} (h : IC A np s F sz dp res) (o : ∀ a x, ((a = 1 ∧ x = 1) ∨ (3 ≤ a ∧ a < 43) ∨ (45 ≤ a ∧ a < 85) ∨ (86 ≤ a ∧ a < 126)) → A' a x = A a x) (st : stI A' s') : IC A' np s' F sz dp res := by
  obtain ⟨h1, h2, h3, h4, h5⟩ := h
  exact ⟨by rw [o _ _ (by omega)]; exact h1, h2, st, fun p hp => ⟨fun w hw => by rw [o _ _ (by omega)]; exact (h4 p hp).1 w hw, by rw [o _ _ (by omega)]; exact (h4 p hp).2.1, stored_off (by omega) (fun x => o _ x (by omega)) (fun x => o _ x (by omega)) (h4 p hp).2.2⟩, h5⟩
/-! NEW PARTS -/
section AP
variable {A : gM} {np : Nat} {x y z : Int32} {sz dp : Nat → Nat}
theorem csize_ok (h1 : A 1 1 = nI np) (hn : np ≤ 40) (hx : kid np x) (hs : ∀ c, c < np → A (3 + c) 5 = nI (sz c)) : mX2_sizeOf A x = some (A, nI (szk sz x)) := by
  rcases hx with rfl | ⟨c, hc, rfl⟩
  · rw [szk_n]
    unfold mX2_sizeOf mX2_sizeOf_b0 mX2_sizeOf_b15
    rw [if_pos rfl, nI0]
  · have hp : mX2_fact A (nI c) 5 = some (A, nI (sz c)) := by rw [lq5, fact_w h1 hc hn (by omega), hs c hc]
    rw [szk_c (by omega)]
    unfold mX2_sizeOf mX2_sizeOf_b0 mX2_sizeOf_b15
    rw [if_neg (by rw [eqm1F (by omega)]; exact not_false), bnd hp]
theorem cdepth_ok (h1 : A 1 1 = nI np) (hn : np ≤ 40) (hx : kid np x) (hs : ∀ c, c < np → A (3 + c) 6 = nI (dp c)) : mX2_depthOf A x = some (A, nI (szk dp x)) := by
  rcases hx with rfl | ⟨c, hc, rfl⟩
  · rw [szk_n]
    unfold mX2_depthOf mX2_depthOf_b0 mX2_depthOf_b16
    rw [if_pos rfl, nI0]
  · have hp : mX2_fact A (nI c) 6 = some (A, nI (dp c)) := by rw [lq6, fact_w h1 hc hn (by omega), hs c hc]
    rw [szk_c (by omega)]
    unfold mX2_depthOf mX2_depthOf_b0 mX2_depthOf_b16
    rw [if_neg (by rw [eqm1F (by omega)]; exact not_false), bnd hp]
theorem cover_ok (h1 : A 1 1 = nI np) (hn : np ≤ 40) (hx : kid np x) (hy : kid np y) (hz : kid np z) (hs : ∀ c, c < np → A (3 + c) 5 = nI (sz c)) : mX2_sizeOver A x y z = some (A, nI (1 + szk sz x + szk sz y + szk sz z)) := by
  unfold mX2_sizeOver mX2_sizeOver_b0
  rw [bnd (csize_ok h1 hn hx hs)]
  dsimp only
  rw [bnd (csize_ok h1 hn hy hs)]
  dsimp only
  rw [bnd (csize_ok h1 hn hz hs)]
  dsimp only
  rw [one_nI, nI_add, nI_add, nI_add]
theorem append_ok {s l : Int32} (h1 : A 1 1 = nI np) (hn : np < 40) (hx : kid np x) (hy : kid np y) (hz : kid np z) (hs : ∀ c, c < np → A (3 + c) 5 = nI (sz c)) (hd : ∀ c, c < np → A (3 + c) 6 = nI (dp c)) (hdb : ∀ c, c < np → dp c ≤ 100) :
    ∃ A', mX2_append A s l x y z = some (A', nI np) ∧ (A' (3 + np) 0 = s ∧ A' (3 + np) 1 = x ∧ A' (3 + np) 2 = y ∧ A' (3 + np) 3 = z ∧ A' (3 + np) 4 = l ∧ A' (3 + np) 5 = nI (1 + szk sz x + szk sz y + szk sz z) ∧ A' (3 + np) 6 = nI (1 + max (szk dp x) (max (szk dp y) (szk dp z)))) ∧ A' 1 1 = nI (np + 1) ∧ ∀ a w, a ≠ 3 + np → ¬ (a = 1 ∧ w = 1) → A' a w = A a w := by
  obtain ⟨B, hB⟩ : ∃ B, B = g_up (g_up (g_up (g_up (g_up A (3 + np) 0 s) (3 + np) 1 x) (3 + np) 2 y) (3 + np) 3 z) (3 + np) 4 l := ⟨_, rfl⟩
  have oB : ∀ a w, a ≠ 3 + np → B a w = A a w := fun a w q => by rw [hB, up_c q, up_c q, up_c q, up_c q, up_c q]
  have b1 : B 1 1 = nI np := by rw [oB _ _ (by omega)]; exact h1
  have co := cover_ok (A := B) (x := x) (y := y) (z := z) b1 (by omega) hx hy hz (fun c hc => by rw [oB _ _ (by omega)]; exact hs c hc)
  obtain ⟨C, hC⟩ : ∃ C, C = g_up B (3 + np) 5 (nI (1 + szk sz x + szk sz y + szk sz z)) := ⟨_, rfl⟩
  have oC : ∀ a w, a ≠ 3 + np → C a w = A a w := fun a w q => by rw [hC, up_c q, oB a w q]
  have c1 : C 1 1 = nI np := by rw [oC _ _ (by omega)]; exact h1
  have hdC : ∀ c, c < np → C (3 + c) 6 = nI (dp c) := fun c hc => by rw [oC _ _ (by omega)]; exact hd c hc
  have d1 := cdepth_ok (A := C) c1 (by omega) hx hdC
  have d2 := cdepth_ok (A := C) c1 (by omega) hy hdC
  have d3 := cdepth_ok (A := C) c1 (by omega) hz hdC
  have kb : ∀ {w : Int32}, kid np w → szk dp w ≤ 100 := fun {w} hw => by
    rcases hw with rfl | ⟨c, hc, rfl⟩
    · rw [szk_n]; omega
    · rw [szk_c (by omega)]; exact hdb c hc
  have bx := kb hx
  have by_ := kb hy
  have bz := kb hz
  obtain ⟨D, hD⟩ : ∃ D, D = g_up C (3 + np) 6 (nI (1 + max (szk dp x) (max (szk dp y) (szk dp z)))) := ⟨_, rfl⟩
  have D1 : D 1 1 = nI np := by rw [hD, up_c (by omega)]; exact c1
  have e1 : (if nI (szk dp y) < nI (szk dp z) then nI (szk dp z) else nI (szk dp y)) = nI (max (szk dp y) (szk dp z)) := max_n (by omega) (by omega)
  have e2 : (if nI (szk dp x) < nI (max (szk dp y) (szk dp z)) then nI (max (szk dp y) (szk dp z)) else nI (szk dp x)) = nI (max (szk dp x) (max (szk dp y) (szk dp z))) := max_n (by omega) (by omega)
  have e3 : (1 : Int32) + nI (max (szk dp x) (max (szk dp y) (szk dp z))) = nI (1 + max (szk dp x) (max (szk dp y) (szk dp z))) := by rw [one_nI, nI_add]
  have c2 : (2 : Int32).toNatClampNeg = 2 := by decide
  have c3 : (3 : Int32).toNatClampNeg = 3 := by decide
  have c4 : (4 : Int32).toNatClampNeg = 4 := by decide
  have c5 : (5 : Int32).toNatClampNeg = 5 := by decide
  have c6 : (6 : Int32).toNatClampNeg = 6 := by decide
  have g0 : g_in 0 7 = true := by decide
  have g1 : g_in 1 7 = true := by decide
  have g2 : g_in 2 7 = true := by decide
  have g3 : g_in 3 7 = true := by decide
  have g4 : g_in 4 7 = true := by decide
  have g5 : g_in 5 7 = true := by decide
  have g6 : g_in 6 7 = true := by decide
  refine ⟨g_up D 1 1 (nI (np + 1)), ?_, ⟨?_, ?_, ?_, ?_, ?_, ?_, ?_⟩, up_s, fun a w q1 q2 => by rw [up_get, if_neg q2, hD, up_c q1, oC a w q1]⟩
  · unfold mX2_append mX2_append_b0
    rw [h1, if_neg (nlt0 (by omega)), lq40, if_pos (by rw [nlt (by omega) (by omega)]; omega), ginT (by omega) (by omega), if_pos rfl, ncl (by omega)]
    rw [g0, if_pos rfl, gle, cl0, g1, if_pos rfl, gle, cl1, g2, if_pos rfl, gle, c2, g3, if_pos rfl, gle, c3, g4, if_pos rfl, gle, c4, ← hB, bnd co]
    dsimp only
    rw [g5, if_pos rfl, gle, c5, ← hC, bnd d1]
    dsimp only
    rw [bnd d2]
    dsimp only
    rw [bnd d3]
    dsimp only
    rw [e1, e2, e3, g6, if_pos rfl, gle, c6, ← hD, gle, D1, nI_1, up_s, sub1 (by omega), Nat.add_sub_cancel]
  · rw [up_c (by omega), hD, up_p (by omega), hC, up_p (by omega), hB, up_p (by omega), up_p (by omega), up_p (by omega), up_p (by omega), up_s]
  · rw [up_c (by omega), hD, up_p (by omega), hC, up_p (by omega), hB, up_p (by omega), up_p (by omega), up_p (by omega), up_s]
  · rw [up_c (by omega), hD, up_p (by omega), hC, up_p (by omega), hB, up_p (by omega), up_p (by omega), up_s]
  · rw [up_c (by omega), hD, up_p (by omega), hC, up_p (by omega), hB, up_p (by omega), up_s]
  · rw [up_c (by omega), hD, up_p (by omega), hC, up_p (by omega), hB, up_s]
  · rw [up_c (by omega), hD, up_p (by omega), hC, up_s]
  · rw [up_c (by omega), hD, up_s]
end AP
theorem prt_cg {F F' : Nat → Nat → Int32} {sz sz' : Nat → Nat} {p : Nat} (hF : ∀ w, F' p w = F p w) (hs : ∀ c, c ≤ p → sz' c = sz c) (h : prt F sz p) : prt F' sz' p := by
  have e := hs p (Nat.le_refl p)
  unfold prt at h ⊢
  rw [hF, hF, hF, hF, hF, e]
  rcases h with ⟨s, q1, q2, q3⟩ | ⟨q, l, q1, q2, q3⟩ | ⟨q, a, l, q1, q2, q3, q4, q5⟩ | ⟨q, a, d, q1, q2, q3, q4, q5⟩ | ⟨q, a, d, l, q1, q2, q3, q4, q5, q6, q7⟩ | ⟨q, a, d, q1, q2, q3, q4, q5⟩ | ⟨q, a, e, q1, q2, q3, q4, q5⟩ | ⟨q, a, d, e, q1, q2, q3, q4, q5, q6, q7⟩
  · exact Or.inl ⟨s, q1, q2, q3⟩
  · exact Or.inr (Or.inl ⟨q, l, q1, q2, q3⟩)
  · exact Or.inr (Or.inr (Or.inl ⟨q, a, l, q1, q2, q3, q4, by rw [hs a (by omega)]; exact q5⟩))
  · exact Or.inr (Or.inr (Or.inr (Or.inl ⟨q, a, d, q1, q2, q3, q4, by rw [hs a (by omega), hs d (by omega)]; exact q5⟩)))
  · exact Or.inr (Or.inr (Or.inr (Or.inr (Or.inl ⟨q, a, d, l, q1, q2, q3, q4, q5, q6, by rw [hs a (by omega), hs d (by omega)]; exact q7⟩))))
  · exact Or.inr (Or.inr (Or.inr (Or.inr (Or.inr (Or.inl ⟨q, a, d, q1, q2, q3, q4, by rw [hs a (by omega), hs d (by omega)]; exact q5⟩)))))
  · exact Or.inr (Or.inr (Or.inr (Or.inr (Or.inr (Or.inr (Or.inl ⟨q, a, e, q1, q2, q3, q4, by rw [hs a (by omega)]; exact q5⟩))))))
  · exact Or.inr (Or.inr (Or.inr (Or.inr (Or.inr (Or.inr (Or.inr ⟨q, a, d, e, q1, q2, q3, q4, q5, q6, by rw [hs a (by omega), hs d (by omega), hs e (by omega)]; exact q7⟩))))))
theorem Rs_cg {F F' : Nat → Nat → Int32} {p : Nat} {res : (Nat × Nat) ⊕ Rw} (hF : ∀ j, j ≤ p → ∀ w, F' j w = F j w) (h : Rs F p res) : Rs F' p res := by
  intro ze zl zt N fr cp Ar b ur Tr chr h1 h2 h3 h4 h5 h6 h7 h8
  exact h ze zl zt N fr cp Ar b ur Tr chr h1 h2 h3 h4 (h5.imp id fun z j hj y => by rw [← hF j (by omega) 4]; exact z j hj (by rw [hF j (by omega) 0]; exact y)) (fun j hj w hw => by rw [h6 j hj w hw, hF j (by omega) w]) h7 h8
theorem szk_cg {sz sz' : Nat → Nat} {np : Nat} {x : Int32} (hn : np ≤ 40) (hx : kid np x) (h : ∀ c, c < np → sz' c = sz c) : szk sz' x = szk sz x := by
  rcases hx with rfl | ⟨c, hc, rfl⟩
  · rw [szk_n, szk_n]
  · rw [szk_c (by omega), szk_c (by omega), h c hc]
theorem kid_le {n m : Nat} {x : Int32} (h : n ≤ m) (hx : kid n x) : kid m x := hx.imp id fun ⟨c, hc, e⟩ => ⟨c, by omega, e⟩
def newP (np : Nat) (F : Nat → Nat → Int32) (sz : Nat → Nat) (so x y z l : Int32) : Prop := ∀ (F' : Nat → Nat → Int32) (sz' : Nat → Nat), F' np 0 = so → F' np 1 = x → F' np 2 = y → F' np 3 = z → F' np 4 = l → (∀ c, c < np → sz' c = sz c) → sz' np = 1 + szk sz x + szk sz y + szk sz z → prt F' sz' np
def AddR (np : Nat) (F : Nat → Nat → Int32) (sz : Nat → Nat) (res : Nat → (Nat × Nat) ⊕ Rw) (F' : Nat → Nat → Int32) (sz' : Nat → Nat) (res' : Nat → (Nat × Nat) ⊕ Rw) (so x y z l : Int32) : Prop := (∀ p, p < np → (∀ w, F' p w = F p w) ∧ sz' p = sz p ∧ res' p = res p) ∧ (F' np 0 = so ∧ F' np 1 = x ∧ F' np 2 = y ∧ F' np 3 = z ∧ F' np 4 = l) ∧ sz' np = 1 + szk sz x + szk sz y + szk sz z
def Made (A : gM) (np s : Nat) (F : Nat → Nat → Int32) (sz : Nat → Nat) (res : Nat → (Nat × Nat) ⊕ Rw) (r : Option (gM × (Int32 ⊕ Nat))) (so x y z l : Int32) : Prop := ∃ A1 s1 F' sz' dp' res', r = some (A1, .inl (nI np)) ∧ s1 ≤ s + 400000 ∧ IC A1 (np + 1) s1 F' sz' dp' res' ∧ AddR np F sz res F' sz' res' so x y z l ∧ ∀ a x, 183 ≤ a → A1 a x = A a x
section AD
variable {A : gM} {np s : Nat} {F : Nat → Nat → Int32} {sz dp : Nat → Nat} {res : Nat → (Nat × Nat) ⊕ Rw} {so l x y z : Int32}
theorem add5 (h : IC A np s F sz dp res) (hs : s + 360001 ≤ 1999990000) (hlt : np < 40) (hx : kid np x) (hy : kid np y) (hz : kid np z) (hbig : 1 + szk sz x + szk sz y + szk sz z ≤ 60) (hnew : newP np F sz so x y z l) : Made A np s F sz res (mX5_add A so l x y z) so x y z l := by
  obtain ⟨h1, h2, h6, h7, h8⟩ := id h
  have hc5 : ∀ c, c < np → A (3 + c) 5 = nI (sz c) := fun c hc => by rw [(h7 c hc).1 5 (by omega)]; exact (h8 c hc).2.2.1
  have co := cover_ok h1 h2 hx hy hz hc5
  have md : mX2_made A = some (A, nI np) := by unfold mX2_made mX2_made_b0; rw [h1]
  obtain ⟨A1, a1, a2, a3, a4⟩ := append_ok (A := A) (s := so) (l := l) (dp := dp) h1 hlt hx hy hz hc5 (fun c hc => (h7 c hc).2.1) (fun c hc => by have := (h8 c hc).2.2.2.2.2.1; omega)
  obtain ⟨F', hF'⟩ : ∃ F' : Nat → Nat → Int32, F' = fun p w => if p = np then A1 (3 + np) w else F p w := ⟨_, rfl⟩
  have fN : ∀ w, F' np w = A1 (3 + np) w := fun w => by rw [hF']; exact if_pos rfl
  have fO : ∀ p, p ≠ np → ∀ w, F' p w = F p w := fun p hp w => by rw [hF']; exact if_neg hp
  have sO : ∀ c, c < np → at1 sz np (1 + szk sz x + szk sz y + szk sz z) c = sz c := fun c hc => at1_n (by omega)
  have hprt : ∀ j, j < np + 1 → prt F' (at1 sz np (1 + szk sz x + szk sz y + szk sz z)) j := fun j hj => by
    by_cases e : j = np
    · subst e
      exact hnew F' _ (by rw [fN]; exact a2.1) (by rw [fN]; exact a2.2.1) (by rw [fN]; exact a2.2.2.1) (by rw [fN]; exact a2.2.2.2.1) (by rw [fN]; exact a2.2.2.2.2.1) sO at1_s
    · exact prt_cg (fO j e) (fun c hc => sO c (by omega)) (h8 j (by omega)).1
  have pcA : PTc A1 (np + 1) F' := ⟨a3, by omega, fun p hp w hw => by
    by_cases e : p = np
    · rw [e, fN]
    · rw [a4 _ _ (by omega) (by omega), fO p e]; exact (h7 p (by omega)).1 w hw⟩
  obtain ⟨A2, s2, rs, b1, b2, b3, b4, b5, b6, b7⟩ := settle_ok (A := A1) (s := s) hlt hprt (by rw [at1_s]; omega) (stI_off h6 (a4 _ _ (by omega) (by omega)) (funext fun w => a4 _ w (by omega) (by omega))) pcA (by omega)
  have o2 : ∀ a w, (a ≠ 3 + np ∧ ¬ (a = 1 ∧ w = 1) ∧ ((a < 86 ∧ a ≠ 45 + np) ∨ (86 ≤ a ∧ a < 126 ∧ a ≠ 86 + np) ∨ 183 ≤ a)) → A2 a w = A a w := fun a w q => by rw [b7 a w q.2.2, a4 a w q.1 q.2.1]
  refine ⟨A2, s2, F', at1 sz np (1 + szk sz x + szk sz y + szk sz z), at1 dp np (1 + max (szk dp x) (max (szk dp y) (szk dp z))), at1 res np rs, ?_, by omega, ⟨?_, by omega, b5, fun p hp => ⟨fun w hw => ?_, ?_, ?_⟩, fun p hp => ?_⟩, ⟨fun p hp => ⟨fO p (by omega), at1_n (by omega), at1_n (by omega)⟩, ⟨by rw [fN]; exact a2.1, by rw [fN]; exact a2.2.1, by rw [fN]; exact a2.2.2.1, by rw [fN]; exact a2.2.2.2.1, by rw [fN]; exact a2.2.2.2.2.1⟩, at1_s⟩, fun a w q => o2 a w (by omega)⟩
  · unfold mX5_add mX5_add_b0
    rw [bnd co]
    dsimp only
    rw [bnd md]
    dsimp only
    rw [lq40, if_neg (by rw [nle (by omega) (by omega)]; omega), lq60, if_pos (by rw [nle (by omega) (by omega)]; omega), bnd a1]
    dsimp only
    rw [bnd b1]
  · rw [b7 _ _ (by omega)]; exact a3
  · by_cases e : p = np
    · rw [e, fN, b7 _ _ (by omega)]
    · rw [o2 _ _ (by omega), fO p e]; exact (h7 p (by omega)).1 w hw
  · by_cases e : p = np
    · rw [e, at1_s, b7 _ _ (by omega)]; exact a2.2.2.2.2.2.2
    · rw [o2 _ _ (by omega), at1_n e]; exact (h7 p (by omega)).2.1
  · by_cases e : p = np
    · rw [e, at1_s]; exact b4
    · rw [at1_n e]; exact stored_off (by omega) (fun w => o2 _ _ (by omega)) (fun w => o2 _ _ (by omega)) (h7 p (by omega)).2.2
  · by_cases e : p = np
    · subst e
      have kd : ∀ {w : Int32}, kid p w → szk dp w ≤ p := fun {w} hw => by
        rcases hw with rfl | ⟨c, hc, rfl⟩
        · rw [szk_n]; omega
        · rw [szk_c (by omega)]; have := (h8 c hc).2.2.2.2.2.1; omega
      have k1 := kd hx
      have k2 := kd hy
      have k3 := kd hz
      refine ⟨hprt p (by omega), by rw [at1_s]; omega, by rw [fN, at1_s]; exact a2.2.2.2.2.2.1, ⟨by rw [fN, a2.2.1]; exact hx, by rw [fN, a2.2.2.1]; exact hy, by rw [fN, a2.2.2.2.1]; exact hz⟩, ?_, by rw [at1_s]; omega, by rw [at1_s]; exact b2, by rw [at1_s]; exact b3⟩
      rw [fN, fN, fN, a2.2.1, a2.2.2.1, a2.2.2.2.1, at1_s, szk_cg h2 hx (fun c hc => at1_n (by omega)), szk_cg h2 hy (fun c hc => at1_n (by omega)), szk_cg h2 hz (fun c hc => at1_n (by omega))]
    · obtain ⟨g1, g2, g3, ⟨g4, g5, g6⟩, g7, g8, g9, g10⟩ := h8 p (by omega)
      refine ⟨hprt p hp, by rw [at1_n e]; exact g2, by rw [fO p e, at1_n e]; exact g3, ⟨by rw [fO p e]; exact g4, by rw [fO p e]; exact g5, by rw [fO p e]; exact g6⟩, ?_, by rw [at1_n e]; exact g8, by rw [at1_n e]; exact Rs_cg (fun j hj w => fO j (by omega) w) g9, by rw [at1_n e]; exact g10⟩
      rw [fO p e, fO p e, fO p e, at1_n e, szk_cg (np := p) (by omega) g4 (fun c hc => at1_n (by omega)), szk_cg (np := p) (by omega) g5 (fun c hc => at1_n (by omega)), szk_cg (np := p) (by omega) g6 (fun c hc => at1_n (by omega))]
      exact g7
theorem inR_n {j n : Nat} (h : j < n) : inR (nI j) n := ⟨j, h, rfl⟩
theorem kid_n {j n : Nat} (h : j < n) : kid n (nI j) := Or.inr ⟨j, h, rfl⟩
theorem kid_m {n : Nat} : kid n (-1) := Or.inl rfl
theorem m_plain {j : Nat} (h : IC A np s F sz dp res) (hs : s + 360001 ≤ 1999990000) (hlt : np < 40) (hj : j < 2) (hbig : 1 ≤ 60) : Made A np s F sz res (mX5_plain A (nI j)) (nI j) (-1) (-1) (-1) (-1) := by
  have hn := h.2.1
  have q := add5 (so := (nI j)) (x := -1) (y := -1) (z := -1) (l := -1) h hs hlt kid_m kid_m kid_m (by rw [szk_n]; omega) (fun F' sz' f0 f1 f2 f3 f4 hsz hsn => Or.inl ⟨j, hj, f0, by rw [hsn, szk_n]⟩)
  obtain ⟨A1, s1, F', sz', dp', res', e1, e2⟩ := q
  refine ⟨A1, s1, F', sz', dp', res', ?_, e2⟩
  unfold mX5_plain mX5_plain_b0
  rw [bnd (betw_ok (n := 2) (by omega) (by omega) (by decide +kernel) (inR_n hj))]
  dsimp only [g_tr]
  unfold mX5_plain_b17
  have z : j = 0 ∨ j = 1 := by omega
  rcases z with rfl | rfl
  · rw [if_pos nI0]
    rw [nI0] at e1
    rw [bnd e1]
    all_goals rfl
  · rw [if_neg (by decide +kernel)]
    rw [← one_nI] at e1
    rw [bnd e1]
    all_goals rfl
theorem m_name {j : Nat} (h : IC A np s F sz dp res) (hs : s + 360001 ≤ 1999990000) (hlt : np < 40) (hj : j < 10) (hbig : 1 ≤ 60) : Made A np s F sz res (mX5_name A (nI j)) (nI 2) (-1) (-1) (-1) (nI j) := by
  have hn := h.2.1
  have q := add5 (so := (nI 2)) (x := -1) (y := -1) (z := -1) (l := nI j) h hs hlt kid_m kid_m kid_m (by rw [szk_n]; omega) (fun F' sz' f0 f1 f2 f3 f4 hsz hsn => Or.inr (Or.inl ⟨f0, j, by omega, f4, by rw [hsn, szk_n]; all_goals omega⟩))
  obtain ⟨A1, s1, F', sz', dp', res', e1, e2⟩ := q
  refine ⟨A1, s1, F', sz', dp', res', ?_, e2⟩
  unfold mX5_name mX5_name_b0
  rw [bnd (betw_ok (n := 10) (by omega) (by omega) (by decide +kernel) (inR_n hj))]
  dsimp only [g_tr]
  rw [← lq2] at e1
  rw [bnd e1]
  all_goals rfl
theorem m_wheel {j a : Nat} (h : IC A np s F sz dp res) (hs : s + 360001 ≤ 1999990000) (hlt : np < 40) (ha : a < np) (hj : j < 10) (hbig : 1 + sz a ≤ 60) : Made A np s F sz res (mX5_wheel A (nI j) (nI a)) (nI 3) (nI a) (-1) (-1) (nI j) := by
  have hn := h.2.1
  have q := add5 (so := (nI 3)) (x := nI a) (y := -1) (z := -1) (l := nI j) h hs hlt (kid_n ha) kid_m kid_m (by rw [szk_n, szk_c (by omega)]; omega) (fun F' sz' f0 f1 f2 f3 f4 hsz hsn => Or.inr (Or.inr (Or.inl ⟨f0, a, j, ha, by omega, f1, f4, by rw [hsn, szk_n, szk_c (by omega), hsz a ha]; all_goals omega⟩)))
  obtain ⟨A1, s1, F', sz', dp', res', e1, e2⟩ := q
  refine ⟨A1, s1, F', sz', dp', res', ?_, e2⟩
  unfold mX5_wheel mX5_wheel_b0
  rw [bnd (part_ok h.1 hn (inR_n ha))]
  dsimp only [g_tr]
  rw [bnd (betw_ok (n := 10) (by omega) (by omega) (by decide +kernel) (inR_n hj))]
  dsimp only [g_tr]
  rw [← lq3] at e1
  rw [bnd e1]
  all_goals rfl
theorem m_turn {a d : Nat} (h : IC A np s F sz dp res) (hs : s + 360001 ≤ 1999990000) (hlt : np < 40) (ha : a < np) (hd : d < np) (hbig : 1 + sz a + sz d ≤ 60) : Made A np s F sz res (mX5_turn A (nI a) (nI d)) (nI 4) (nI a) (nI d) (-1) (-1) := by
  have hn := h.2.1
  have q := add5 (so := (nI 4)) (x := nI a) (y := nI d) (z := -1) (l := -1) h hs hlt (kid_n ha) (kid_n hd) kid_m (by rw [szk_n, szk_c (by omega), szk_c (by omega)]; omega) (fun F' sz' f0 f1 f2 f3 f4 hsz hsn => Or.inr (Or.inr (Or.inr (Or.inl ⟨f0, a, d, ha, hd, f1, f2, by rw [hsn, szk_n, szk_c (by omega), szk_c (by omega), hsz a ha, hsz d hd]; all_goals omega⟩))))
  obtain ⟨A1, s1, F', sz', dp', res', e1, e2⟩ := q
  refine ⟨A1, s1, F', sz', dp', res', ?_, e2⟩
  unfold mX5_turn mX5_turn_b0
  rw [bnd (part_ok h.1 hn (inR_n ha))]
  dsimp only [g_tr]
  rw [bnd (part_ok h.1 hn (inR_n hd))]
  dsimp only [g_tr]
  rw [← lq4] at e1
  rw [bnd e1]
  all_goals rfl
theorem m_tell {j a d : Nat} (h : IC A np s F sz dp res) (hs : s + 360001 ≤ 1999990000) (hlt : np < 40) (ha : a < np) (hd : d < np) (hj : j < 10) (hbig : 1 + sz a + sz d ≤ 60) : Made A np s F sz res (mX5_tell A (nI j) (nI a) (nI d)) (nI 5) (nI a) (nI d) (-1) (nI j) := by
  have hn := h.2.1
  have q := add5 (so := (nI 5)) (x := nI a) (y := nI d) (z := -1) (l := nI j) h hs hlt (kid_n ha) (kid_n hd) kid_m (by rw [szk_n, szk_c (by omega), szk_c (by omega)]; omega) (fun F' sz' f0 f1 f2 f3 f4 hsz hsn => Or.inr (Or.inr (Or.inr (Or.inr (Or.inl ⟨f0, a, d, j, ha, hd, by omega, f1, f2, f4, by rw [hsn, szk_n, szk_c (by omega), szk_c (by omega), hsz a ha, hsz d hd]; all_goals omega⟩)))))
  obtain ⟨A1, s1, F', sz', dp', res', e1, e2⟩ := q
  refine ⟨A1, s1, F', sz', dp', res', ?_, e2⟩
  unfold mX5_tell mX5_tell_b0
  rw [bnd (part_ok h.1 hn (inR_n ha))]
  dsimp only [g_tr]
  rw [bnd (part_ok h.1 hn (inR_n hd))]
  dsimp only [g_tr]
  rw [bnd (betw_ok (n := 10) (by omega) (by omega) (by decide +kernel) (inR_n hj))]
  dsimp only [g_tr]
  rw [← lq5] at e1
  rw [bnd e1]
  all_goals rfl
theorem m_axle {a d : Nat} (h : IC A np s F sz dp res) (hs : s + 360001 ≤ 1999990000) (hlt : np < 40) (ha : a < np) (hd : d < np) (hbig : 1 + sz a + sz d ≤ 60) : Made A np s F sz res (mX5_axle A (nI a) (nI d)) (nI 6) (nI a) (nI d) (-1) (-1) := by
  have hn := h.2.1
  have q := add5 (so := (nI 6)) (x := nI a) (y := nI d) (z := -1) (l := -1) h hs hlt (kid_n ha) (kid_n hd) kid_m (by rw [szk_n, szk_c (by omega), szk_c (by omega)]; omega) (fun F' sz' f0 f1 f2 f3 f4 hsz hsn => Or.inr (Or.inr (Or.inr (Or.inr (Or.inr (Or.inl ⟨f0, a, d, ha, hd, f1, f2, by rw [hsn, szk_n, szk_c (by omega), szk_c (by omega), hsz a ha, hsz d hd]; all_goals omega⟩))))))
  obtain ⟨A1, s1, F', sz', dp', res', e1, e2⟩ := q
  refine ⟨A1, s1, F', sz', dp', res', ?_, e2⟩
  unfold mX5_axle mX5_axle_b0
  rw [bnd (part_ok h.1 hn (inR_n ha))]
  dsimp only [g_tr]
  rw [bnd (part_ok h.1 hn (inR_n hd))]
  dsimp only [g_tr]
  rw [← lq6] at e1
  rw [bnd e1]
  all_goals rfl
theorem m_end {a j : Nat} (h : IC A np s F sz dp res) (hs : s + 360001 ≤ 1999990000) (hlt : np < 40) (ha : a < np) (hj : j < 2) (hbig : 1 + sz a ≤ 60) : Made A np s F sz res (mX5_end A (nI a) (nI j)) (nI 7) (nI a) (-1) (-1) (nI j) := by
  have hn := h.2.1
  have q := add5 (so := (nI 7)) (x := nI a) (y := -1) (z := -1) (l := nI j) h hs hlt (kid_n ha) kid_m kid_m (by rw [szk_n, szk_c (by omega)]; omega) (fun F' sz' f0 f1 f2 f3 f4 hsz hsn => Or.inr (Or.inr (Or.inr (Or.inr (Or.inr (Or.inr (Or.inl ⟨f0, a, j, ha, by omega, f1, f4, by rw [hsn, szk_n, szk_c (by omega), hsz a ha]; all_goals omega⟩)))))))
  obtain ⟨A1, s1, F', sz', dp', res', e1, e2⟩ := q
  refine ⟨A1, s1, F', sz', dp', res', ?_, e2⟩
  unfold mX5_end mX5_end_b0
  rw [bnd (part_ok h.1 hn (inR_n ha))]
  dsimp only [g_tr]
  rw [bnd (betw_ok (n := 2) (by omega) (by omega) (by decide +kernel) (inR_n hj))]
  dsimp only [g_tr]
  rw [← lq7] at e1
  rw [bnd e1]
  all_goals rfl
theorem m_either {a d e : Nat} (h : IC A np s F sz dp res) (hs : s + 360001 ≤ 1999990000) (hlt : np < 40) (ha : a < np) (hd : d < np) (he : e < np) (hbig : 1 + sz a + sz d + sz e ≤ 60) : Made A np s F sz res (mX5_either A (nI a) (nI d) (nI e)) (nI 8) (nI a) (nI d) (nI e) (-1) := by
  have hn := h.2.1
  have q := add5 (so := (nI 8)) (x := nI a) (y := nI d) (z := nI e) (l := -1) h hs hlt (kid_n ha) (kid_n hd) (kid_n he) (by rw [szk_c (by omega), szk_c (by omega), szk_c (by omega)]; omega) (fun F' sz' f0 f1 f2 f3 f4 hsz hsn => Or.inr (Or.inr (Or.inr (Or.inr (Or.inr (Or.inr (Or.inr ⟨f0, a, d, e, ha, hd, he, f1, f2, f3, by rw [hsn, szk_c (by omega), szk_c (by omega), szk_c (by omega), hsz a ha, hsz d hd, hsz e he]; all_goals omega⟩)))))))
  obtain ⟨A1, s1, F', sz', dp', res', e1, e2⟩ := q
  refine ⟨A1, s1, F', sz', dp', res', ?_, e2⟩
  unfold mX5_either mX5_either_b0
  rw [bnd (part_ok h.1 hn (inR_n ha))]
  dsimp only [g_tr]
  rw [bnd (part_ok h.1 hn (inR_n hd))]
  dsimp only [g_tr]
  rw [bnd (part_ok h.1 hn (inR_n he))]
  dsimp only [g_tr]
  rw [← lq8] at e1
  rw [bnd e1]
  all_goals rfl
end AD
/-! ASKING -/
theorem kept_w {A : gM} {p w : Nat} {res : (Nat × Nat) ⊕ Rw} (h : stored A p res) (hw : w < 5) : A (86 + p) w = told res w := by
  have c : w = 0 ∨ w = 1 ∨ w = 2 ∨ w = 3 ∨ w = 4 := by omega
  cases res with
  | inl fq =>
    obtain ⟨f, q⟩ := fq
    obtain ⟨k1, k2, k3, k4, k5, -⟩ := h.1 f q rfl
    rcases c with rfl | rfl | rfl | rfl | rfl
    · exact k1
    · exact k2
    · rw [k3]; exact nI0
    · rw [k4]; exact nI0
    · rw [k5]; exact nI0
  | inr r =>
    obtain ⟨k1, k2, k3, k4, k5, -⟩ := h.2 r rfl
    rcases c with rfl | rfl | rfl | rfl | rfl
    · exact k1
    · exact k2
    · exact k3
    · exact k4
    · exact k5
theorem kept_len {A : gM} {p : Nat} {res : (Nat × Nat) ⊕ Rw} (h : stored A p res) : A (86 + p) 2 = nI (rowOf res).length := by
  cases res with
  | inl fq => exact (h.1 fq.1 fq.2 rfl).2.2.1
  | inr r => exact (h.2 r rfl).2.2.1
theorem kept_row {A : gM} {p : Nat} {res : (Nat × Nat) ⊕ Rw} (h : stored A p res) : rowIn A (45 + p) (rowOf res) := by
  cases res with
  | inl fq => exact (h.1 fq.1 fq.2 rfl).2.2.2.2.2
  | inr r => exact (h.2 r rfl).2.2.2.2.2
theorem rowOf_len {res : (Nat × Nat) ⊕ Rw} (h : resOK res) : (rowOf res).length ≤ 60 := by
  cases res with
  | inl fq => exact Nat.zero_le _
  | inr r => exact (h.2 r rfl).2.1
theorem place_ok' {A : gM} {x : Int32} {n : Nat} {m : Int32} (hn : n ≤ 1000) (hm : m = nI n) (h : inR x n) : mX5_needPlace A x m = some (A, .inl 0) := by rw [hm]; exact place_ok hn h
section AK
variable {A : gM} {np s : Nat} {F : Nat → Nat → Int32} {sz dp : Nat → Nat} {res : Nat → (Nat × Nat) ⊕ Rw}
theorem inv_in {p : Nat} (h : IC A np s F sz dp res) (hp : p < np) : stored A p (res p) ∧ resOK (res p) ∧ p < 40 := ⟨(h.2.2.2.1 p hp).2.2, (h.2.2.2.2 p hp).2.2.2.2.2.2.2, by have := h.2.1; omega⟩
theorem a_undo (h : IC A np s F sz dp res) (h1 : 1 ≤ np) : ∃ A1, mX5_undo A = some (A1, .inl (nI (np - 1))) ∧ IC A1 (np - 1) s F sz dp res ∧ ∀ a x, 183 ≤ a → A1 a x = A a x := by
  have hn := h.2.1
  have d : mX2_dropLast A = some (g_up A 1 1 (nI (np - 1))) := by
    unfold mX2_dropLast mX2_dropLast_b0 mX2_dropLast_b17
    rw [h.1, if_neg (by rw [le0F (by omega) (by omega)]; exact not_false), gle, sub1 (by omega)]
  have o : ∀ a x, a ≠ 1 → g_up A 1 1 (nI (np - 1)) a x = A a x := fun a x q => up_c q
  refine ⟨g_up A 1 1 (nI (np - 1)), ?_, ?_, fun a x q => o a x (by omega)⟩
  · unfold mX5_undo mX5_undo_b0 mX2_made mX2_made_b0
    rw [obe]
    dsimp only
    rw [gle, h.1, sub1 (by omega), if_pos (by rw [ge0T (by omega)]; trivial), bnd d]
  · obtain ⟨g1, g2, g3, g4, g5⟩ := h
    exact ⟨up_s, by omega, stI_off g3 (o _ _ (by omega)) (funext fun x => o _ _ (by omega)), fun p hp => ⟨fun w hw => by rw [o _ _ (by omega)]; exact (g4 p (by omega)).1 w hw, by rw [o _ _ (by omega)]; exact (g4 p (by omega)).2.1, stored_off (by omega) (fun x => o _ _ (by omega)) (fun x => o _ _ (by omega)) (g4 p (by omega)).2.2⟩, fun p hp => g5 p (by omega)⟩
theorem a_part {p w : Nat} (h : IC A np s F sz dp res) (hp : p < np) (hw : w < 6) : mX5_part A (nI p) (nI w) = some (A, .inl (F p w)) := by
  have hn := h.2.1
  unfold mX5_part mX5_part_b0
  rw [bnd (part_ok h.1 hn (inR_n hp))]
  dsimp only [g_tr]
  rw [bnd (place_ok' (n := 7) (by omega) lq7 (inR_n (by omega)))]
  dsimp only [g_tr]
  rw [bnd (fact_w h.1 hp hn (by omega)), (h.2.2.2.1 p hp).1 w hw]
theorem a_type {p w : Nat} (h : IC A np s F sz dp res) (hp : p < np) (hw : w < 5) : mX5_type A (nI p) (nI w) = some (A, .inl (told (res p) w)) := by
  have hn := h.2.1
  obtain ⟨g1, g2, g3⟩ := inv_in h hp
  unfold mX5_type mX5_type_b0
  rw [bnd (part_ok h.1 hn (inR_n hp))]
  dsimp only [g_tr]
  rw [bnd (place_ok' (n := 5) (by omega) lq5 (inR_n hw))]
  dsimp only [g_tr]
  rw [bnd (fact3_w g3 hw), kept_w g1 hw]
theorem a_code {p w c : Nat} {R : Rw} (h : IC A np s F sz dp res) (hp : p < np) (e : res p = .inr R) (hc : R[w]? = some c) : mX5_code A (nI p) (nI w) = some (A, .inl (nI c)) := by
  have hn := h.2.1
  obtain ⟨g1, g2, g3⟩ := inv_in h hp
  have gl := rowOf_len g2
  have ef := fact3_2 (A := A) g3
  rw [kept_len g1] at ef
  have er : rowOf (res p) = R := by rw [e]; rfl
  have hw : w < (rowOf (res p)).length := by rw [er]; exact (List.getElem?_eq_some_iff.mp hc).1
  unfold mX5_code mX5_code_b0
  rw [bnd (part_ok h.1 hn (inR_n hp))]
  dsimp only [g_tr]
  rw [bnd ef]
  dsimp only
  rw [bnd (place_ok (by omega) (inR_n hw))]
  dsimp only [g_tr]
  rw [bnd (codeAt_k g3 (by omega)), kept_row g1 w c (by rw [er]; exact hc)]
theorem a_count (h : IC A np s F sz dp res) : mX5_count A (nI 0) = some (A, .inl (nI np)) := by
  unfold mX5_count mX5_count_b0
  rw [bnd (place_ok' (n := 6) (by omega) lq6 (inR_n (by omega)))]
  dsimp only [g_tr]
  have c : mX5_counted A (nI 0) = some (A, nI np) := by
    unfold mX5_counted mX5_counted_b0 mX2_made mX2_made_b0
    rw [if_pos nI0, obe, h.1]
  rw [bnd c]
/-- rows alike -/
theorem alike_L {A : gM} {a b : Nat} {R S : Rw} (ha : a < 40) (hb : b < 40) (hR : rowIn A (45 + a) R) (hS : rowIn A (45 + b) S) (hl : R.length = S.length) (hl6 : R.length ≤ 60) (bR : ∀ c ∈ R, c < 100) (bS : ∀ c ∈ S, c < 100) : ∀ f i, i ≤ R.length → R.length - i < f → mX3_alike_L22 f A (nI a) (nI b) (nI R.length) (nI i) = some (A, if R.drop i = S.drop i then 1 else 0)
  | 0, i, _, hf => by omega
  | f + 1, i, hi, hf => by
    show mX3_alike_b22 (mX3_alike_L22 f) A (nI a) (nI b) (nI R.length) (nI i) = _
    unfold mX3_alike_b22
    by_cases e : i = R.length
    · rw [if_pos (by rw [nle (by omega) (by omega)]; omega), if_pos (Or.inr rfl), e, List.drop_length, hl, List.drop_length, if_pos rfl]
    · obtain ⟨c, c1, c2, c3⟩ := drop_at (R := R) (k := i) (by omega)
      obtain ⟨d, d1, d2, d3⟩ := drop_at (R := S) (k := i) (by omega)
      have bc := bR c c3
      have bd := bS d d3
      rw [if_neg (by rw [nle (by omega) (by omega)]; omega), bnd (codeAt_k ha (by omega)), hR i c c1]
      dsimp only
      rw [bnd (codeAt_k hb (by omega)), hS i d d1]
      dsimp only
      rw [c2, d2]
      by_cases q : c = d
      · subst q
        rw [if_pos rfl, gle, nI_1, alike_L ha hb hR hS hl hl6 bR bS f (i + 1) (by omega) (by omega)]
        by_cases z : R.drop (i + 1) = S.drop (i + 1)
        · rw [if_pos z, if_pos (by rw [z])]
        · rw [if_neg z, if_neg (fun y => z (List.cons.inj y).2)]
      · rw [if_neg (fun y => q ((nI_eq (by omega) (by omega)).mp y)), if_pos (Or.inl rfl), if_neg (fun y => q (List.cons.inj y).1)]
/-- both parts told without a fault -/
theorem both0 {a b : Nat} (h : IC A np s F sz dp res) (ha : a < np) (hb : b < np) : (∃ R S, res a = .inr R ∧ res b = .inr S ∧ mX5_bothTyped A (nI a) (nI b) = some (A, 1)) ∨ (((∃ f, res a = .inl f) ∨ ∃ f, res b = .inl f) ∧ mX5_bothTyped A (nI a) (nI b) = some (A, 0)) := by
  obtain ⟨a1, a2, a3⟩ := inv_in h ha
  obtain ⟨b1, b2, b3⟩ := inv_in h hb
  have fa := fact3_0 (A := A) a3
  have fb := fact3_0 (A := A) b3
  rw [kept_w a1 (by omega)] at fa
  rw [kept_w b1 (by omega)] at fb
  unfold mX5_bothTyped mX5_bothTyped_b0 mX5_bothTyped_b28 mX5_bothTyped_b29
  rw [bnd fa]
  dsimp only
  rcases pdec (res a) with ⟨f, q, e⟩ | ⟨R, e⟩
  · right
    have hf := a2.1 f q e
    refine ⟨Or.inl ⟨_, e⟩, ?_⟩
    rw [if_neg (by rw [e]; show ¬ nI f = 0; rw [eq0F (by omega) (by omega)]; exact not_false), if_pos (Or.inl rfl)]
  · have g0 : told (res a) 0 = 0 := by rw [e]; rfl
    rw [if_pos g0, bnd fb]
    dsimp only
    rcases pdec (res b) with ⟨f, q, e2⟩ | ⟨S, e2⟩
    · right
      have hf := b2.1 f q e2
      refine ⟨Or.inr ⟨_, e2⟩, ?_⟩
      rw [if_neg (by rw [e2]; show ¬ nI f = 0; rw [eq0F (by omega) (by omega)]; exact not_false), if_pos (Or.inl rfl)]
    · left
      have g1 : told (res b) 0 = 0 := by rw [e2]; rfl
      refine ⟨R, S, e, e2, ?_⟩
      rw [if_pos g1, if_pos (Or.inr rfl)]
theorem ok_codes {r : (Nat × Nat) ⊕ Rw} {R : Rw} (h : resOK r) (e : r = .inr R) : R.length ≤ 60 ∧ 1 ≤ R.length ∧ (∀ c ∈ R, c < 100) ∧ rowOf r = R := by
  obtain ⟨h1, h2, h3⟩ := h.2 R e
  refine ⟨h2, ?_, fun c hc => by have := h3 c hc; omega, by rw [e]; rfl⟩
  cases R with
  | nil => exact absurd h1 (by unfold Ty; decide)
  | cons c t => exact Nat.succ_le_succ (Nat.zero_le _)
theorem a_same {a b : Nat} {R : Rw} (h : IC A np s F sz dp res) (ha : a < np) (hb : b < np) (ea : res a = .inr R) (eb : res b = .inr R) : mX5_same A (nI a) (nI b) = some (A, .inl 1) := by
  have hn := h.2.1
  obtain ⟨a1, a2, a3⟩ := inv_in h ha
  obtain ⟨b1, b2, b3⟩ := inv_in h hb
  obtain ⟨lR, pR, cR, oR⟩ := ok_codes a2 ea
  obtain ⟨-, -, -, oS⟩ := ok_codes b2 eb
  have bt : mX5_bothTyped A (nI a) (nI b) = some (A, 1) := by
    rcases both0 h ha hb with ⟨R', S', -, -, bt⟩ | ⟨hz, -⟩
    · exact bt
    · rcases hz with ⟨f, q⟩ | ⟨f, q⟩
      · rw [ea] at q; cases q
      · rw [eb] at q; cases q
  have fa := fact3_2 (A := A) a3
  have fb := fact3_2 (A := A) b3
  rw [kept_len a1, oR] at fa
  rw [kept_len b1, oS] at fb
  have ra := kept_row a1
  have rb := kept_row b1
  rw [oR] at ra
  rw [oS] at rb
  have al : mX3_alike A (nI a) (nI b) = some (A, 1) := by
    have := alike_L a3 b3 ra rb rfl lR cR cR gF 0 (Nat.zero_le _) (by unfold gF; omega)
    rw [if_pos rfl, nI0] at this
    unfold mX3_alike mX3_alike_b0
    rw [bnd fa]
    dsimp only
    rw [bnd fb]
    dsimp only
    rw [if_pos rfl]
    exact this
  unfold mX5_same mX5_same_b0 mX5_same_b36
  rw [bnd (part_ok h.1 hn (inR_n ha))]
  dsimp only [g_tr]
  rw [bnd (part_ok h.1 hn (inR_n hb))]
  dsimp only [g_tr]
  rw [bnd bt]
  dsimp only
  rw [if_neg (by decide), bnd al]
  dsimp only
  rw [if_neg (by decide), if_pos (Or.inr rfl)]
theorem a_goes {a d : Nat} (h : IC A np s F sz dp res) (ha : a < np) (hd : d < np) (ea : res a = .inr [2, 10, 10]) (hs : s + 2700 ≤ 1999990000) : ∃ A1 s1 v, mX5_goes A (nI a) (nI d) = some (A1, .inl (told (res d) 0)) ∧ v = 0 ∧ s1 ≤ s + 400000 ∧ IC A1 np s1 F sz dp res ∧ ∀ a x, 183 ≤ a → A1 a x = A a x := by
  have hnp := h.2.1
  have hst := h.2.2.1
  obtain ⟨sa, oa, la⟩ := inv_in h ha
  obtain ⟨sd, od, ld⟩ := inv_in h hd
  have fa : mX3_fact A (nI a) 0 = some (A, A (86 + a) 0) := fact3_0 (by omega)
  have fd : mX3_fact A (nI d) 0 = some (A, A (86 + d) 0) := fact3_0 (by omega)
  have ends : ∀ A1 s1, stI A1 s1 → s1 ≤ s + 2601 → offQ A A1 → mX5_faultOfTurning A (nI a) (nI d) = some (A1, told (res d) 0) → ∃ A1 s1 v, mX5_goes A (nI a) (nI d) = some (A1, .inl (told (res d) 0)) ∧ v = 0 ∧ s1 ≤ s + 400000 ∧ IC A1 np s1 F sz dp res ∧ ∀ a x, 183 ≤ a → A1 a x = A a x := fun A1 s1 q1 q2 q3 q4 => by
    refine ⟨A1, s1, 0, ?_, rfl, by omega, IC_off h (fun a x q => q3 a x (by omega)) q1, fun a x q => q3 a x (by omega)⟩
    unfold mX5_goes mX5_goes_b0
    rw [bnd (part_ok h.1 hnp (inR_n ha))]
    dsimp only [g_tr]
    rw [bnd (part_ok h.1 hnp (inR_n hd))]
    dsimp only [g_tr]
    rw [bnd q4]
  obtain ⟨r, hr⟩ : ∃ r : Rw, r = [2, 10, 10] := ⟨_, rfl⟩
  rw [← hr] at ea
  have hka := sa.2 r ea
  have hba := oa.2 r ea
  rcases pdec (res d) with ⟨f, q, ed⟩ | ⟨r2, ed⟩
  · have hk := sd.1 f q ed
    have hb := od.1 f q ed
    refine ends A s hst (by omega) (fun _ _ _ => rfl) ?_
    have ef : told (res d) 0 = nI f := by rw [ed]; rfl
    rw [ef]
    rw [hka.1] at fa
    rw [hk.1] at fd
    unfold mX5_faultOfTurning mX5_faultOfTurning_b0 mX5_faultOfTurning_b24 mX5_faultOfTurning_b45
    rw [bnd fa]
    dsimp only
    rw [if_pos rfl, bnd fd]
    dsimp only
    rw [if_neg (by rw [eq0F (by omega) (by omega)]; exact not_false)]
  · have hkd := sd.2 r2 ed
    have hbd := od.2 r2 ed
    -- the class's run
    obtain ⟨C1, c1, c2, c3⟩ := clear_ok A
    have keep : ∀ {X Y : gM} {j : Nat} {R : Rw}, j < 40 → (∀ a x, (a < 129 ∨ a = 133 ∨ (137 < a ∧ a ≠ 182) ∨ (a = 129 ∧ x ≠ 9)) → Y a x = X a x) → kept X j 0 (-1) R → kept Y j 0 (-1) R := fun {X Y j R} hj o h => by
      obtain ⟨k1, k2, k3, k4, k5, k6⟩ := h
      exact ⟨by rw [o _ _ (by omega)]; exact k1, by rw [o _ _ (by omega)]; exact k2, by rw [o _ _ (by omega)]; exact k3, by rw [o _ _ (by omega)]; exact k4, by rw [o _ _ (by omega)]; exact k5, fun i c hi => by rw [o _ _ (by omega)]; exact k6 i c hi⟩
    have o1 : ∀ a x, (a < 129 ∨ a = 133 ∨ (137 < a ∧ a ≠ 182) ∨ (a = 129 ∧ x ≠ 9)) → C1 a x = A a x := fun a x q => c3 a x (by omega)
    obtain ⟨C2, u2, T2, ch2, na, ga, x1, x2, x3, x4, x5, x6, x7, x8, x9, x10⟩ := buildRow_ok c2 (p := a) (by omega) (keep (by omega) o1 hka) hba.1 hba.2.1 hba.2.2 (by omega)
    obtain ⟨C3, u3, T3, ch3, nb, gb, y1, y2, y3, y4, y5, y6, y7, y8, y9, y10⟩ := buildRow_ok x2 (p := d) (by omega) (keep (by omega) x10 (keep (by omega) o1 hkd)) hbd.1 hbd.2.1 hbd.2.2 (by omega)
    obtain ⟨v1, v2⟩ := newVariable_ok y2 (by omega)
    obtain ⟨m1, m2⟩ := pair_ok (c := 2) (i := nb) (j := u3) v2 (by omega) (Or.inl rfl) (by omega) (by omega)
    obtain ⟨C4, hC4⟩ : ∃ C4, C4 = mkA C3 u3 4 (-1) (-1) := ⟨_, rfl⟩
    obtain ⟨T4, hT4⟩ : ∃ T4, T4 = at1 T3 u3 [100 + u3] := ⟨_, rfl⟩
    obtain ⟨C5, hC5⟩ : ∃ C5, C5 = mkA C4 (u3 + 1) (nI 2) (nI nb) (nI u3) := ⟨_, rfl⟩
    obtain ⟨T5, hT5⟩ : ∃ T5, T5 = at1 T4 (u3 + 1) (2 :: (T4 nb ++ T4 u3)) := ⟨_, rfl⟩
    rw [← hC4] at v1 m1 m2
    rw [← hT4, ← hT5, ← hC5] at m2
    rw [← hC5] at m1
    have ofr : ∀ a x, (a < 129 ∨ a = 133 ∨ (137 < a ∧ a ≠ 182) ∨ (a = 129 ∧ x ≠ 9)) → C5 a x = A a x := fun a x q => by rw [hC5, mkA_else (by omega), hC4, mkA_else (by omega), y10 a x q, x10 a x q, o1 a x q]
    have st5 : stI C5 s := stI_off hst (ofr _ _ (by omega)) (funext fun x => ofr _ x (by omega))
    have eTa : T5 na = exR ga (fun n => [n]) r := by rw [hT5, at1_n (by omega), hT4, at1_n (by omega), y7 na (by omega), x6]
    have eTb : T5 nb = exR gb T2 r2 := by rw [hT5, at1_n (by omega), hT4, at1_n (by omega), y6]
    have eTv : T5 u3 = [100 + u3] := by rw [hT5, at1_n (by omega), hT4, at1_s]
    have eTm : T5 (u3 + 1) = 2 :: (T5 nb ++ T5 u3) := by
      rw [eTv, hT5, at1_s, at1_n (show nb ≠ u3 + 1 by omega), hT4, at1_s]
    have m1' : mX4_make C4 2 (nI nb) (nI u3) = some (C5, nI (u3 + 1)) := by rw [lq2]; exact m1
    have pre : ∀ X, mX4_match C5 (nI na) (nI (u3 + 1)) = some X → mX5_faultOfTurning A (nI a) (nI d) = (if X.2 = 0 then (mX0_isTooLong X.1 (nI u3)).bind fun q8 => if q8.2 = 0 then some (q8.1, 0) else some (q8.1, 4) else some (X.1, X.2)) := by
      intro X hX
      rw [hka.1] at fa
      rw [hkd.1] at fd
      have inner : mX0_faultOfTurning A (nI a) (nI d) = (if X.2 = 0 then (mX0_isTooLong X.1 (nI u3)).bind fun q8 => if q8.2 = 0 then some (q8.1, 0) else some (q8.1, 4) else some (X.1, X.2)) := by
        unfold mX0_faultOfTurning mX0_faultOfTurning_b0 mX0_faultOfTurning_b77
        rw [bnd c1, bnd x1]
        dsimp only
        rw [bnd y1]
        dsimp only
        rw [bnd v1]
        dsimp only
        rw [bnd m1']
        dsimp only
        rw [bnd hX]
      unfold mX5_faultOfTurning mX5_faultOfTurning_b0 mX5_faultOfTurning_b24 mX5_faultOfTurning_b45
      rw [bnd fa]
      dsimp only
      rw [if_pos rfl, bnd fd]
      dsimp only
      rw [if_pos rfl, inner]
      by_cases z : X.2 = 0
      · rw [if_pos z]
        cases hh : mX0_isTooLong X.1 (nI u3) with
        | none => rfl
        | some q8 =>
          rw [obe]
          by_cases zz : q8.2 = 0
          · rw [if_pos zz, obe]
          · rw [if_neg zz, obe]
      · rw [if_neg z, obe]
    obtain ⟨gU, resU, hU, hcm⟩ := match_ok m2 st5 (by omega) (a := na) (b := u3 + 1) (by omega) (by omega)

    have e0 : told (res d) 0 = 0 := by rw [ed]; rfl
    have vx : T5 na = 2 :: ([100 + ga 0] ++ [100 + ga 0]) := by rw [eTa, hr]; rfl
    have eM2 : T5 (u3 + 1) = 2 :: (T5 nb ++ [100 + u3]) := by rw [eTm, eTv]
    have gA := x8 10 (by rw [hr]; simp) (by omega) (by omega)
    have hin : ∀ x ∈ T5 nb, x < 10 ∨ (100 + u2 ≤ x ∧ x < 100 + u3) := fun x hx => by
      rw [eTb, exR_sub] at hx
      obtain ⟨c, hc, hx⟩ := subE_mem.mp hx
      rcases hbd.2.2 c hc with q | q
      · rw [if_pos (by omega), List.mem_singleton] at hx; exact Or.inl (by omega)
      · rw [if_neg (by omega), if_pos (by omega), List.mem_singleton] at hx
        have := y8 c hc (by omega) (by omega)
        exact Or.inr (by omega)
    rw [vx, eM2] at hU
    rw [Nat.sub_self] at gA
    obtain ⟨bs0, er, en0, el0⟩ := U_turn (sT_Ty m2 nb (by omega)) (by omega) (by omega) (by omega) (fun z => by have := hin _ z; omega) (fun z => by have := hin _ z; omega) hU
    have eLR : (T5 nb).length ≤ 60 := by
      have : (T5 nb).length = r2.length := by
        have z : T5 nb = exR gb T2 r2 := eTb
        rw [z]
        have : ∀ R : Rw, (∀ c ∈ R, c < 4 ∨ (10 ≤ c ∧ c < 70)) → (exR gb T2 R).length = R.length := by
          intro R
          induction R with
          | nil => intro _; rfl
          | cons c R ih =>
            intro hR
            rw [exR_cons, List.length_append, ih (fun c hc => hR c (List.mem_cons_of_mem _ hc))]
            have := hR c List.mem_cons_self
            by_cases q : c < 10
            · rw [if_pos q, List.length_singleton, List.length_cons]; omega
            · rw [if_neg q, if_pos (by omega), List.length_singleton, List.length_cons]; omega
        exact this r2 hbd.2.2
      have := hbd.2.1
      omega
    rcases hcm with ⟨n, C6, s6, en, -⟩ | ⟨bs, C6, ch6, s6, en, o6, st6, hs6, hT6, -, hm6⟩
    · rw [er] at en; cases en
    · rw [er] at en
      cases en
      obtain ⟨Cw, w1, w2, w3⟩ := write_ok hT6 (n := u3) (by omega)
      have tl : mX0_isTooLong C6 (nI u3) = some (Cw, 0) := by
        unfold mX0_isTooLong mX0_isTooLong_b0 mX0_isTooLong_b22
        rw [if_pos (by rw [eTv, el0]; exact eLR), eTv, el0] at w1
        simp (disch := omega) only [lq2, lq3, lq4, lq5, lq6, lq7, lq8, lq9, lq10, lq11, lq40, lq59, lq60, lq61, lq100, lq500, lq2600, lq5208, lq1000000, ltT, ltF, leT, leF, eqT, eqF, lt0F, le0F, le0T, ge0T, eq0T, eq0F, eqm1F, ten0, m1lt0, eq_self, nI_add, nI_1, sub1, addm1, addm2, subn, cl0, cl1, ncl, ginT, gin0, gin1, ↓reduceIte, if_true, if_false, Nat.add_sub_cancel, obe, ↓gle, true_or, or_true, ↓(bnd w1)]
      refine ends Cw s6 (stI_off st6 (w2 129 10 (by omega) (by omega) (by omega) (by omega)) (funext fun x => w2 133 x (by omega) (by omega) (by omega) (by omega))) hs6 (fun x w q => ?_) ?_
      · rw [w2 x w (by omega) (by omega) (by omega) (by omega), o6 x w (by omega) (by omega) (by omega) (by omega) (by omega) (by omega) (by omega), ofr x w (by omega)]
      · rw [pre _ hm6, e0]
        dsimp only
        rw [if_pos rfl, bnd tl]
        dsimp only
        rw [if_pos rfl]
end AK
