/-! THE STATE OF BOTH BETWEEN CALLS -/
def PW (np : Nat) (F : Nat → Nat → Int32) (sz dp : Nat → Nat) (res : Nat → (Nat × Nat) ⊕ Rw) : Prop := ∀ p, p < np → prt F sz p ∧ sz p ≤ 60 ∧ F p 5 = nI (sz p) ∧ (kid p (F p 1) ∧ kid p (F p 2) ∧ kid p (F p 3)) ∧ dp p = 1 + max (szk dp (F p 1)) (max (szk dp (F p 2)) (szk dp (F p 3))) ∧ dp p ≤ p + 1 ∧ Rs F p (res p) ∧ resOK (res p)
def INV (A : gM) (cp np s : Nat) (F : Nat → Nat → Int32) (sz dp : Nat → Nat) (res : Nat → (Nat × Nat) ⊕ Rw) : Prop :=
  A 1 1 = nI np ∧ np ≤ 40 ∧ A 183 1 = nI np ∧ okc cp ∧ rO A cp ∧ stI A s ∧ (∀ p, p < np → (∀ w, w < 6 → A (3 + p) w = F p w ∧ A 184 (6 * p + w) = F p w) ∧ A (3 + p) 6 = nI (dp p) ∧ stored A p (res p)) ∧ PW np F sz dp res
def LOK (cp s : Nat) (rC : Option (gM × Int32)) (rR : gM → Option (gM × (Nat × Nat × Nat) × Int32)) : Prop :=
  ∃ A1 kk, rC = some (A1, kk) ∧ ∃ A2 cp' k n r, rR A1 = some (A2, (cp', k, n), r) ∧ A2 183 0 = kk ∧ (kk = 0 → A2 192 0 = r) ∧ costB cp cp' k n 200 12000 ∧ ∃ np' s' F' sz' dp' res', INV A2 cp' np' s' F' sz' dp' res' ∧ s' ≤ s + 400000
/-- numbers in a range, and not -/
def inR (x : Int32) (n : Nat) : Prop := ∃ j, j < n ∧ x = nI j
def notR (x : Int32) (n : Nat) : Prop := x < 0 ∨ ∃ j, n ≤ j ∧ j < 2 ^ 31 ∧ x = nI j
theorem inR_dec (x : Int32) (n : Nat) : inR x n ∨ notR x n := by
  by_cases h : x < 0
  · exact Or.inr (Or.inl h)
  · obtain ⟨j, h1, h2⟩ := nI_of h
    by_cases q : j < n
    · exact Or.inl ⟨j, q, h2⟩
    · exact Or.inr (Or.inr ⟨j, by omega, h1, h2⟩)
theorem place_ok {A : gM} {x : Int32} {n : Nat} (hn : n ≤ 1000) (h : inR x n) : mX5_needPlace A x (nI n) = some (A, .inl 0) := by
  obtain ⟨j, h1, rfl⟩ := h
  unfold mX5_needPlace mX5_needPlace_b0
  rw [if_neg (nlt0 (by omega)), if_pos (by rw [nlt (by omega) (by omega)]; exact h1)]
theorem place_no {A : gM} {x : Int32} {n : Nat} (hn : n ≤ 1000) (h : notR x n) : mX5_needPlace A x (nI n) = some (A, .inr 0) := by
  unfold mX5_needPlace mX5_needPlace_b0 mX5_needPlace_b9
  rcases h with h | ⟨j, h1, h2, rfl⟩
  · rw [if_pos h]
  · rw [if_neg (nI_pos h2), if_neg (fun q => by rw [nI_ltI h2 (by omega)] at q; omega)]
theorem part_ok {A : gM} {x : Int32} {np : Nat} (h : A 1 1 = nI np) (hn : np ≤ 40) (hx : inR x np) : mX5_needPart A x = some (A, .inl 0) := by
  unfold mX5_needPart mX5_needPart_b0 mX2_made mX2_made_b0
  rw [obe]
  dsimp only
  rw [h, bnd (place_ok (by omega) hx)]; rfl
theorem part_no {A : gM} {x : Int32} {np : Nat} (h : A 1 1 = nI np) (hn : np ≤ 40) (hx : notR x np) : mX5_needPart A x = some (A, .inr 0) := by
  unfold mX5_needPart mX5_needPart_b0 mX2_made mX2_made_b0
  rw [obe]
  dsimp only
  rw [h, bnd (place_no (by omega) hx)]; rfl
theorem betw_ok {A : gM} {x hi : Int32} {n : Nat} (hn : n ≤ 1000) (h1 : 1 ≤ n) (hh : hi = nI (n - 1)) (h : inR x n) : mX5_needBetween A x 0 hi = some (A, .inl 0) := by
  obtain ⟨j, h2, rfl⟩ := h
  unfold mX5_needBetween mX5_needBetween_b0
  rw [if_neg (nlt0 (by omega)), hh, if_pos (by rw [nle (by omega) (by omega)]; omega)]
theorem betw_no {A : gM} {x hi : Int32} {n : Nat} (hn : n ≤ 1000) (h1 : 1 ≤ n) (hh : hi = nI (n - 1)) (h : notR x n) : mX5_needBetween A x 0 hi = some (A, .inr 1) := by
  unfold mX5_needBetween mX5_needBetween_b0 mX5_needBetween_b10
  rcases h with h | ⟨j, h2, h3, rfl⟩
  · rw [if_pos h]
  · rw [if_neg (nI_pos h3), hh, if_neg (fun q => by rw [nI_leI h3 (by omega)] at q; omega)]
theorem isIn_ok {cp : Nat} {A : gM} {x hi : Int32} {n : Nat} (hn : n ≤ 1000) (hh : hi = nI n - 1) (h : inR x n) : mX6_isIn cp A x 0 hi = some (A, 1) := by
  obtain ⟨j, h2, rfl⟩ := h
  unfold mX6_isIn mX6_isIn_b0 mX6_isIn_b15
  rw [if_neg (nlt0 (by omega)), hh, sub1 (by omega), if_neg (by rw [nlt (by omega) (by omega)]; omega)]
  rfl
theorem isIn_no {cp : Nat} {A : gM} {x hi : Int32} {n : Nat} (hn : n ≤ 1000) (hh : hi = nI n - 1) (h : notR x n) : mX6_isIn cp A x 0 hi = some (A, 0) := by
  unfold mX6_isIn mX6_isIn_b0 mX6_isIn_b14 mX6_isIn_b15
  rcases h with h | ⟨j, h2, h3, rfl⟩
  · rw [if_pos h]; rfl
  · rw [if_neg (nI_pos h3), hh]
    by_cases q : n = 0
    · subst q
      rw [show nI 0 - 1 = (-1 : Int32) by decide +kernel, if_pos]
      · rfl
      · rw [Int32.lt_iff_toInt_lt, nI_toInt (by omega), show (-1 : Int32).toInt = -1 by decide]; omega
    · rw [sub1 (by omega), if_pos (by rw [nI_ltI (by omega) h3]; omega)]; rfl
theorem isPart_ok {cp np : Nat} {A : gM} {x : Int32} (h : A 183 1 = nI np) (hn : np ≤ 40) (hx : inR x np) : mX6_isPart cp A x = some (A, 1) := by
  unfold mX6_isPart mX6_isPart_b0
  rw [bnd (isIn_ok (n := np) (by omega) (by rw [h]) hx)]; rfl
theorem isPart_no {cp np : Nat} {A : gM} {x : Int32} (h : A 183 1 = nI np) (hn : np ≤ 40) (hx : notR x np) : mX6_isPart cp A x = some (A, 0) := by
  unfold mX6_isPart mX6_isPart_b0
  rw [bnd (isIn_no (n := np) (by omega) (by rw [h]) hx)]; rfl
theorem isName_ok {cp : Nat} {A : gM} {x : Int32} (hx : inR x 10) : mX6_isName cp A x = some (A, 1) := by
  unfold mX6_isName mX6_isName_b0
  rw [bnd (isIn_ok (n := 10) (by omega) (by decide +kernel) hx)]; rfl
theorem isName_no {cp : Nat} {A : gM} {x : Int32} (hx : notR x 10) : mX6_isName cp A x = some (A, 0) := by
  unfold mX6_isName mX6_isName_b0
  rw [bnd (isIn_no (n := 10) (by omega) (by decide +kernel) hx)]; rfl
theorem rfail0 {cp : Nat} {A : gM} {v : Int32} : mX6_fail cp A v = some (g_up A 183 0 v, 0) := by
  unfold mX6_fail mX6_fail_b0
  rw [gle]
/-- memories that differ where nothing is kept -/
theorem stored_off {A A' : gM} {p : Nat} {res : (Nat × Nat) ⊕ Rw} (hp : p < 40) (o : ∀ x, A' (86 + p) x = A (86 + p) x) (o2 : ∀ x, A' (45 + p) x = A (45 + p) x) (h : stored A p res) : stored A' p res := by
  have k : ∀ {f q : Int32} {R : Rw}, kept A p f q R → kept A' p f q R := fun ⟨k1, k2, k3, k4, k5, k6⟩ => ⟨by rw [o]; exact k1, by rw [o]; exact k2, by rw [o]; exact k3, by rw [o]; exact k4, by rw [o]; exact k5, fun i c hi => by rw [o2]; exact k6 i c hi⟩
  exact ⟨fun f q e => k (h.1 f q e), fun r e => k (h.2 r e)⟩
theorem INV_off {A A' : gM} {cp cp' np s s' : Nat} {F : Nat → Nat → Int32} {sz dp : Nat → Nat} {res : Nat → (Nat × Nat) ⊕ Rw} (h : INV A cp np s F sz dp res) (o : ∀ a x, ((a = 1 ∧ x = 1) ∨ (3 ≤ a ∧ a < 43) ∨ (45 ≤ a ∧ a < 85) ∨ (86 ≤ a ∧ a < 126) ∨ (a = 183 ∧ x = 1) ∨ (a = 184 ∧ x < 6 * np)) → A' a x = A a x) (hc : okc cp') (hO : rO A' cp') (st : stI A' s') : INV A' cp' np s' F sz dp res := by
  obtain ⟨h1, h2, h3, h4, h5, h6, h7, h8⟩ := h
  refine ⟨by rw [o _ _ (by omega)]; exact h1, h2, by rw [o _ _ (by omega)]; exact h3, hc, hO, st, fun p hp => ⟨fun w hw => ?_, by rw [o _ _ (by omega)]; exact (h7 p hp).2.1, stored_off (by omega) (fun x => o _ x (by omega)) (fun x => o _ x (by omega)) (h7 p hp).2.2⟩, h8⟩
  have := (h7 p hp).1 w hw
  rw [o _ _ (by omega), o 184 _ (by omega)]; exact this
theorem INV_RM {A : gM} {cp np s : Nat} {F : Nat → Nat → Int32} {sz dp : Nat → Nat} {res : Nat → (Nat × Nat) ⊕ Rw} (h : INV A cp np s F sz dp res) : RM A cp np F sz :=
  ⟨h.2.2.2.1, h.2.2.2.2.1, h.2.2.1, h.2.1, fun p hp w hw => ((h.2.2.2.2.2.2.1 p hp).1 w hw).2, fun c hc => (h.2.2.2.2.2.2.2 c hc).2.2.1⟩
theorem INV_RI {A : gM} {cp np s p : Nat} {F : Nat → Nat → Int32} {sz dp : Nat → Nat} {res : Nat → (Nat × Nat) ⊕ Rw} (h : INV A cp np s F sz dp res) (hp : p < np) : RI A cp F p (res p) :=
  ⟨h.2.2.2.1, h.2.2.2.2.1, fun j hj w hw => ((h.2.2.2.2.2.2.1 j (by omega)).1 w hw).2, (h.2.2.2.2.2.2.2 p hp).2.2.2.2.2.2.1, (h.2.2.2.2.2.2.2 p hp).2.2.2.2.2.2.2⟩
/-! NEW PARTS -/
section AP
variable {A : gM} {np : Nat} {x y z : Int32} {sz dp : Nat → Nat}
theorem csize_ok (h1 : A 1 1 = nI np) (hn : np ≤ 40) (hx : kid np x) (hs : ∀ c, c < np → A (3 + c) 5 = nI (sz c)) : mX2_sizeOf A x = some (A, nI (szk sz x)) := by
  rcases hx with rfl | ⟨c, hc, rfl⟩
  · rw [szk_n]
    unfold mX2_sizeOf mX2_sizeOf_b0 mX2_sizeOf_b15
    rw [if_pos rfl, nI0]
  · have hp : mX2_fact A (nI c) 5 = some (A, nI (sz c)) := by rw [lq5, fact_w h1 hc hn (by omega), hs c hc]
    rw [szk_c (by omega)]
    unfold mX2_sizeOf mX2_sizeOf_b0 mX2_sizeOf_b15
    rw [if_neg (by rw [eqm1F (by omega)]; exact not_false), bnd hp]
theorem cdepth_ok (h1 : A 1 1 = nI np) (hn : np ≤ 40) (hx : kid np x) (hs : ∀ c, c < np → A (3 + c) 6 = nI (dp c)) : mX2_depthOf A x = some (A, nI (szk dp x)) := by
  rcases hx with rfl | ⟨c, hc, rfl⟩
  · rw [szk_n]
    unfold mX2_depthOf mX2_depthOf_b0 mX2_depthOf_b16
    rw [if_pos rfl, nI0]
  · have hp : mX2_fact A (nI c) 6 = some (A, nI (dp c)) := by rw [lq6, fact_w h1 hc hn (by omega), hs c hc]
    rw [szk_c (by omega)]
    unfold mX2_depthOf mX2_depthOf_b0 mX2_depthOf_b16
    rw [if_neg (by rw [eqm1F (by omega)]; exact not_false), bnd hp]
theorem cover_ok (h1 : A 1 1 = nI np) (hn : np ≤ 40) (hx : kid np x) (hy : kid np y) (hz : kid np z) (hs : ∀ c, c < np → A (3 + c) 5 = nI (sz c)) : mX2_sizeOver A x y z = some (A, nI (1 + szk sz x + szk sz y + szk sz z)) := by
  unfold mX2_sizeOver mX2_sizeOver_b0
  rw [bnd (csize_ok h1 hn hx hs)]
  dsimp only
  rw [bnd (csize_ok h1 hn hy hs)]
  dsimp only
  rw [bnd (csize_ok h1 hn hz hs)]
  dsimp only
  rw [one_nI, nI_add, nI_add, nI_add]
theorem append_ok {s l : Int32} (h1 : A 1 1 = nI np) (hn : np < 40) (hx : kid np x) (hy : kid np y) (hz : kid np z) (hs : ∀ c, c < np → A (3 + c) 5 = nI (sz c)) (hd : ∀ c, c < np → A (3 + c) 6 = nI (dp c)) (hdb : ∀ c, c < np → dp c ≤ 100) :
    ∃ A', mX2_append A s l x y z = some (A', nI np) ∧ (A' (3 + np) 0 = s ∧ A' (3 + np) 1 = x ∧ A' (3 + np) 2 = y ∧ A' (3 + np) 3 = z ∧ A' (3 + np) 4 = l ∧ A' (3 + np) 5 = nI (1 + szk sz x + szk sz y + szk sz z) ∧ A' (3 + np) 6 = nI (1 + max (szk dp x) (max (szk dp y) (szk dp z)))) ∧ A' 1 1 = nI (np + 1) ∧ ∀ a w, a ≠ 3 + np → ¬ (a = 1 ∧ w = 1) → A' a w = A a w := by
  obtain ⟨B, hB⟩ : ∃ B, B = g_up (g_up (g_up (g_up (g_up A (3 + np) 0 s) (3 + np) 1 x) (3 + np) 2 y) (3 + np) 3 z) (3 + np) 4 l := ⟨_, rfl⟩
  have oB : ∀ a w, a ≠ 3 + np → B a w = A a w := fun a w q => by rw [hB, up_c q, up_c q, up_c q, up_c q, up_c q]
  have b1 : B 1 1 = nI np := by rw [oB _ _ (by omega)]; exact h1
  have co := cover_ok (A := B) (x := x) (y := y) (z := z) b1 (by omega) hx hy hz (fun c hc => by rw [oB _ _ (by omega)]; exact hs c hc)
  obtain ⟨C, hC⟩ : ∃ C, C = g_up B (3 + np) 5 (nI (1 + szk sz x + szk sz y + szk sz z)) := ⟨_, rfl⟩
  have oC : ∀ a w, a ≠ 3 + np → C a w = A a w := fun a w q => by rw [hC, up_c q, oB a w q]
  have c1 : C 1 1 = nI np := by rw [oC _ _ (by omega)]; exact h1
  have hdC : ∀ c, c < np → C (3 + c) 6 = nI (dp c) := fun c hc => by rw [oC _ _ (by omega)]; exact hd c hc
  have d1 := cdepth_ok (A := C) c1 (by omega) hx hdC
  have d2 := cdepth_ok (A := C) c1 (by omega) hy hdC
  have d3 := cdepth_ok (A := C) c1 (by omega) hz hdC
  have kb : ∀ {w : Int32}, kid np w → szk dp w ≤ 100 := fun {w} hw => by
    rcases hw with rfl | ⟨c, hc, rfl⟩
    · rw [szk_n]; omega
    · rw [szk_c (by omega)]; exact hdb c hc
  have bx := kb hx
  have by_ := kb hy
  have bz := kb hz
  obtain ⟨D, hD⟩ : ∃ D, D = g_up C (3 + np) 6 (nI (1 + max (szk dp x) (max (szk dp y) (szk dp z)))) := ⟨_, rfl⟩
  have D1 : D 1 1 = nI np := by rw [hD, up_c (by omega)]; exact c1
  have e1 : (if nI (szk dp y) < nI (szk dp z) then nI (szk dp z) else nI (szk dp y)) = nI (max (szk dp y) (szk dp z)) := max_n (by omega) (by omega)
  have e2 : (if nI (szk dp x) < nI (max (szk dp y) (szk dp z)) then nI (max (szk dp y) (szk dp z)) else nI (szk dp x)) = nI (max (szk dp x) (max (szk dp y) (szk dp z))) := max_n (by omega) (by omega)
  have e3 : (1 : Int32) + nI (max (szk dp x) (max (szk dp y) (szk dp z))) = nI (1 + max (szk dp x) (max (szk dp y) (szk dp z))) := by rw [one_nI, nI_add]
  have c2 : (2 : Int32).toNatClampNeg = 2 := by decide
  have c3 : (3 : Int32).toNatClampNeg = 3 := by decide
  have c4 : (4 : Int32).toNatClampNeg = 4 := by decide
  have c5 : (5 : Int32).toNatClampNeg = 5 := by decide
  have c6 : (6 : Int32).toNatClampNeg = 6 := by decide
  have g0 : g_in 0 7 = true := by decide
  have g1 : g_in 1 7 = true := by decide
  have g2 : g_in 2 7 = true := by decide
  have g3 : g_in 3 7 = true := by decide
  have g4 : g_in 4 7 = true := by decide
  have g5 : g_in 5 7 = true := by decide
  have g6 : g_in 6 7 = true := by decide
  refine ⟨g_up D 1 1 (nI (np + 1)), ?_, ⟨?_, ?_, ?_, ?_, ?_, ?_, ?_⟩, up_s, fun a w q1 q2 => by rw [up_get, if_neg q2, hD, up_c q1, oC a w q1]⟩
  · unfold mX2_append mX2_append_b0
    rw [h1, if_neg (nlt0 (by omega)), lq40, if_pos (by rw [nlt (by omega) (by omega)]; omega), ginT (by omega) (by omega), if_pos rfl, ncl (by omega)]
    rw [g0, if_pos rfl, gle, cl0, g1, if_pos rfl, gle, cl1, g2, if_pos rfl, gle, c2, g3, if_pos rfl, gle, c3, g4, if_pos rfl, gle, c4, ← hB, bnd co]
    dsimp only
    rw [g5, if_pos rfl, gle, c5, ← hC, bnd d1]
    dsimp only
    rw [bnd d2]
    dsimp only
    rw [bnd d3]
    dsimp only
    rw [e1, e2, e3, g6, if_pos rfl, gle, c6, ← hD, gle, D1, nI_1, up_s, sub1 (by omega), Nat.add_sub_cancel]
  · rw [up_c (by omega), hD, up_p (by omega), hC, up_p (by omega), hB, up_p (by omega), up_p (by omega), up_p (by omega), up_p (by omega), up_s]
  · rw [up_c (by omega), hD, up_p (by omega), hC, up_p (by omega), hB, up_p (by omega), up_p (by omega), up_p (by omega), up_s]
  · rw [up_c (by omega), hD, up_p (by omega), hC, up_p (by omega), hB, up_p (by omega), up_p (by omega), up_s]
  · rw [up_c (by omega), hD, up_p (by omega), hC, up_p (by omega), hB, up_p (by omega), up_s]
  · rw [up_c (by omega), hD, up_p (by omega), hC, up_p (by omega), hB, up_s]
  · rw [up_c (by omega), hD, up_p (by omega), hC, up_s]
  · rw [up_c (by omega), hD, up_s]
end AP
