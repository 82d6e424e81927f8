/-! MAKING PARTS, on both sides -/
theorem prt_cg {F F' : Nat → Nat → Int32} {sz sz' : Nat → Nat} {p : Nat} (hF : ∀ w, F' p w = F p w) (hs : ∀ c, c ≤ p → sz' c = sz c) (h : prt F sz p) : prt F' sz' p := by
  have e := hs p (Nat.le_refl p)
  unfold prt at h ⊢
  rw [hF, hF, hF, hF, hF, e]
  rcases h with ⟨s, q1, q2, q3⟩ | ⟨q, l, q1, q2, q3⟩ | ⟨q, a, l, q1, q2, q3, q4, q5⟩ | ⟨q, a, d, q1, q2, q3, q4, q5⟩ | ⟨q, a, d, l, q1, q2, q3, q4, q5, q6, q7⟩ | ⟨q, a, d, q1, q2, q3, q4, q5⟩ | ⟨q, a, e, q1, q2, q3, q4, q5⟩ | ⟨q, a, d, e, q1, q2, q3, q4, q5, q6, q7⟩
  · exact Or.inl ⟨s, q1, q2, q3⟩
  · exact Or.inr (Or.inl ⟨q, l, q1, q2, q3⟩)
  · exact Or.inr (Or.inr (Or.inl ⟨q, a, l, q1, q2, q3, q4, by rw [hs a (by omega)]; exact q5⟩))
  · exact Or.inr (Or.inr (Or.inr (Or.inl ⟨q, a, d, q1, q2, q3, q4, by rw [hs a (by omega), hs d (by omega)]; exact q5⟩)))
  · exact Or.inr (Or.inr (Or.inr (Or.inr (Or.inl ⟨q, a, d, l, q1, q2, q3, q4, q5, q6, by rw [hs a (by omega), hs d (by omega)]; exact q7⟩))))
  · exact Or.inr (Or.inr (Or.inr (Or.inr (Or.inr (Or.inl ⟨q, a, d, q1, q2, q3, q4, by rw [hs a (by omega), hs d (by omega)]; exact q5⟩)))))
  · exact Or.inr (Or.inr (Or.inr (Or.inr (Or.inr (Or.inr (Or.inl ⟨q, a, e, q1, q2, q3, q4, by rw [hs a (by omega)]; exact q5⟩))))))
  · exact Or.inr (Or.inr (Or.inr (Or.inr (Or.inr (Or.inr (Or.inr ⟨q, a, d, e, q1, q2, q3, q4, q5, q6, by rw [hs a (by omega), hs d (by omega), hs e (by omega)]; exact q7⟩))))))
theorem Rs_cg {F F' : Nat → Nat → Int32} {p : Nat} {res : (Nat × Nat) ⊕ Rw} (hF : ∀ j, j ≤ p → ∀ w, F' j w = F j w) (h : Rs F p res) : Rs F' p res := fun N fr cp Ar ur Tr chr h1 h2 h3 h4 h5 => h N fr cp Ar ur Tr chr h1 h2 h3 (fun j hj w hw => by rw [h4 j hj w hw, hF j (by omega) w]) h5
theorem szk_cg {sz sz' : Nat → Nat} {np : Nat} {x : Int32} (hn : np ≤ 40) (hx : kid np x) (h : ∀ c, c < np → sz' c = sz c) : szk sz' x = szk sz x := by
  rcases hx with rfl | ⟨c, hc, rfl⟩
  · rw [szk_n, szk_n]
  · rw [szk_c (by omega), szk_c (by omega), h c hc]
theorem kid_le {n m : Nat} {x : Int32} (h : n ≤ m) (hx : kid n x) : kid m x := hx.imp id fun ⟨c, hc, e⟩ => ⟨c, by omega, e⟩
def newP (np : Nat) (F : Nat → Nat → Int32) (sz : Nat → Nat) (so x y z l : Int32) : Prop := ∀ (F' : Nat → Nat → Int32) (sz' : Nat → Nat), F' np 0 = so → F' np 1 = x → F' np 2 = y → F' np 3 = z → F' np 4 = l → (∀ c, c < np → sz' c = sz c) → sz' np = 1 + szk sz x + szk sz y + szk sz z → prt F' sz' np
section AD
variable {A : gM} {cp np s : Nat} {F : Nat → Nat → Int32} {sz dp : Nat → Nat} {res : Nat → (Nat × Nat) ⊕ Rw} {so l x y z : Int32}
theorem add_ok (h : INV A cp np s F sz dp res) (hs : s + 360001 ≤ 1999990000) (hx : kid np x) (hy : kid np y) (hz : kid np z) (hnew : newP np F sz so x y z l) (number : Int32) :
    (mX5_add A so l x y z = some (A, .inr 2) ∧ ∀ B, RM B cp np F sz → mX6_made 193 cp B so x y z l number = some (g_up B 183 0 number, (cp, 0, 0), 0)) ∨
    (∃ A1 s1, mX5_add A so l x y z = some (A1, .inl (nI np)) ∧ s1 ≤ s + 360001 ∧ A1 183 1 = nI np ∧ ∀ B, (∀ a w, a ≠ 192 → ¬ (a = 183 ∧ w = 0) → B a w = A1 a w) → ∃ B', mX6_made 193 cp B so x y z l number = some (B', (cp, 0 + (0 + 1), 0 + (0 + 6)), nI np) ∧ B' 183 0 = B 183 0 ∧ B' 192 0 = B 192 0 ∧ ∃ F' sz' dp' res', INV B' cp (np + 1) s1 F' sz' dp' res') := by
  obtain ⟨h1, h2, h3, h4, h5, h6, h7, h8⟩ := id h
  have hc5 : ∀ c, c < np → A (3 + c) 5 = nI (sz c) := fun c hc => by rw [((h7 c hc).1 5 (by omega)).1]; exact (h8 c hc).2.2.1
  have hsb : ∀ {w : Int32}, kid np w → szk sz w ≤ 60 := fun {w} hw => by
    rcases hw with rfl | ⟨c, hc, rfl⟩
    · rw [szk_n]; omega
    · rw [szk_c (by omega)]; exact (h8 c hc).2.1
  have bx := hsb hx
  have by_ := hsb hy
  have bz := hsb hz
  have co := cover_ok h1 h2 hx hy hz hc5
  have md : mX2_made A = some (A, nI np) := by unfold mX2_made mX2_made_b0; rw [h1]
  have esz : ∀ B, RM B cp np F sz → (mX6_size cp B x = some (B, nI (szk sz x)) ∧ mX6_size cp B y = some (B, nI (szk sz y)) ∧ mX6_size cp B z = some (B, nI (szk sz z))) := fun B hB => by
    have q : ∀ c, c < np → B 184 (6 * c + 5) = nI (sz c) := fun c hc => by rw [hB.2.2.2.2.1 c hc 5 (by omega)]; exact hB.2.2.2.2.2 c hc
    exact ⟨size_ok h2 hx q, size_ok h2 hy q, size_ok h2 hz q⟩
  have eA : (1 : Int32) + nI (szk sz x) + nI (szk sz y) + nI (szk sz z) = nI (1 + szk sz x + szk sz y + szk sz z) := by rw [one_nI, nI_add, nI_add, nI_add]
  by_cases hfull : np = 40
  · refine Or.inl ⟨?_, fun B hB => ?_⟩
    · unfold mX5_add mX5_add_b0 mX5_add_b33
      rw [bnd co]
      dsimp only
      rw [bnd md]
      dsimp only
      rw [lq40, if_pos (by rw [nle (by omega) (by omega)]; omega)]
    · unfold mX6_made mX6_made_b0 mX6_made_b34
      rw [if_pos (by rw [hB.2.2.1, hfull, lq40]), rfail0]; rfl
  · by_cases hbig : 60 < 1 + szk sz x + szk sz y + szk sz z
    · refine Or.inl ⟨?_, fun B hB => ?_⟩
      · unfold mX5_add mX5_add_b0 mX5_add_b33
        rw [bnd co]
        dsimp only
        rw [bnd md]
        dsimp only
        rw [lq40, if_neg (by rw [nle (by omega) (by omega)]; omega), lq60, if_neg (by rw [nle (by omega) (by omega)]; omega)]
      · obtain ⟨e1, e2, e3⟩ := esz B hB
        unfold mX6_made mX6_made_b0 mX6_made_b34
        rw [if_neg (by rw [hB.2.2.1, lq40, neq (by omega) (by omega)]; exact hfull), bnd e1]
        dsimp only
        rw [bnd e2]
        dsimp only
        rw [bnd e3]
        dsimp only
        rw [eA, lq60, if_neg (by rw [nle (by omega) (by omega)]; omega), rfail0]; rfl
    · have hlt : np < 40 := by omega
      obtain ⟨A1, a1, a2, a3, a4⟩ := append_ok (A := A) (s := so) (l := l) (dp := dp) h1 hlt hx hy hz hc5 (fun c hc => (h7 c hc).2.1) (fun c hc => by have := (h8 c hc).2.2.2.2.2.1; omega)
      obtain ⟨F', hF'⟩ : ∃ F' : Nat → Nat → Int32, F' = fun p w => if p = np then A1 (3 + np) w else F p w := ⟨_, rfl⟩
      have fN : ∀ w, F' np w = A1 (3 + np) w := fun w => by rw [hF']; exact if_pos rfl
      have fO : ∀ p, p ≠ np → ∀ w, F' p w = F p w := fun p hp w => by rw [hF']; exact if_neg hp
      have sO : ∀ c, c < np → at1 sz np (1 + szk sz x + szk sz y + szk sz z) c = sz c := fun c hc => at1_n (by omega)
      have hprt : ∀ j, j < np + 1 → prt F' (at1 sz np (1 + szk sz x + szk sz y + szk sz z)) j := fun j hj => by
        by_cases e : j = np
        · subst e
          exact hnew F' _ (by rw [fN]; exact a2.1) (by rw [fN]; exact a2.2.1) (by rw [fN]; exact a2.2.2.1) (by rw [fN]; exact a2.2.2.2.1) (by rw [fN]; exact a2.2.2.2.2.1) sO at1_s
        · exact prt_cg (fO j e) (fun c hc => sO c (by omega)) (h8 j (by omega)).1
      have pcA : PTc A1 (np + 1) F' := ⟨a3, by omega, fun p hp w hw => by
        by_cases e : p = np
        · rw [e, fN]
        · rw [a4 _ _ (by omega) (by omega), fO p e]; exact ((h7 p (by omega)).1 w hw).1⟩
      obtain ⟨A2, s2, rs, b1, b2, b3, b4, b5, b6, b7⟩ := settle_ok (A := A1) (s := s) hlt hprt (by rw [at1_s]; omega) (stI_off h6 (a4 _ _ (by omega) (by omega)) (funext fun w => a4 _ w (by omega) (by omega))) pcA (by omega)
      have o2 : ∀ a w, (a ≠ 3 + np ∧ ¬ (a = 1 ∧ w = 1) ∧ ((a < 86 ∧ a ≠ 45 + np) ∨ (86 ≤ a ∧ a < 126 ∧ a ≠ 86 + np) ∨ 183 ≤ a)) → A2 a w = A a w := fun a w q => by rw [b7 a w q.2.2, a4 a w q.1 q.2.1]
      refine Or.inr ⟨A2, s2, ?_, b6, by rw [o2 _ _ (by omega)]; exact h3, fun B hB => ?_⟩
      · unfold mX5_add mX5_add_b0
        rw [bnd co]
        dsimp only
        rw [bnd md]
        dsimp only
        rw [lq40, if_neg (by rw [nle (by omega) (by omega)]; omega), lq60, if_pos (by rw [nle (by omega) (by omega)]; omega), bnd a1]
        dsimp only
        rw [bnd b1]
      · have hRM : RM B cp np F sz := ⟨h4, fun i hi => by rw [hB _ _ (by omega) (by omega), o2 _ _ (by omega)]; exact h5 i hi, by rw [hB _ _ (by omega) (by omega), o2 _ _ (by omega)]; exact h3, h2, fun p hp w hw => by rw [hB _ _ (by omega) (by omega), o2 _ _ (by omega)]; exact ((h7 p hp).1 w hw).2, fun c hc => (h8 c hc).2.2.1⟩
        obtain ⟨e1, e2, e3⟩ := esz B hRM
        obtain ⟨C, c1, c2, c3, c4⟩ := put_ok (N := 193) (cp := cp) (A := B) (s := so) (l := l) (sz := sz) (Nat.le_refl _) h2 hRM.2.2.1 hx hy hz (fun c hc => by rw [hRM.2.2.2.2.1 c hc 5 (by omega)]; exact hRM.2.2.2.2.2 c hc)
        have C1 : C 183 1 = nI np := by rw [c4 _ _ (by omega) (by omega)]; exact hRM.2.2.1
        have oD : ∀ a w, a ≠ 184 → a ≠ 193 → ¬ (a = 183 ∧ w = 1) → g_up C 183 1 (nI (np + 1)) a w = B a w := fun a w q1 q2 q3 => by rw [up_get, if_neg q3, c4 a w q1 q2]
        have oE : ∀ a w, a ≠ 184 → a ≠ 193 → a ≠ 192 → a ≠ 183 → g_up C 183 1 (nI (np + 1)) a w = A2 a w := fun a w q1 q2 q3 q4 => by rw [oD a w q1 q2 (by omega), hB a w q3 (by omega)]
        refine ⟨g_up C 183 1 (nI (np + 1)), ?_, oD _ _ (by omega) (by omega) (by omega), oD _ _ (by omega) (by omega) (by omega), F', at1 sz np (1 + szk sz x + szk sz y + szk sz z), at1 dp np (1 + max (szk dp x) (max (szk dp y) (szk dp z))), at1 res np rs, ?_, by omega, up_s, h4, fun i hi => by rw [oE _ _ (by omega) (by omega) (by omega) (by omega), o2 _ _ (by omega)]; exact h5 i hi, stI_off b5 (oE _ _ (by omega) (by omega) (by omega) (by omega)) (funext fun w => oE _ w (by omega) (by omega) (by omega) (by omega)), fun p hp => ⟨fun w hw => ⟨?_, ?_⟩, ?_, ?_⟩, fun p hp => ?_⟩
        · unfold mX6_made mX6_made_b0 mX6_made_b52
          rw [if_neg (by rw [hRM.2.2.1, lq40, neq (by omega) (by omega)]; exact hfull), bnd e1]
          dsimp only
          rw [bnd e2]
          dsimp only
          rw [bnd e3]
          dsimp only
          rw [eA, lq60, if_pos (by rw [nle (by omega) (by omega)]; omega), bnd c1]
          dsimp only
          rw [gle, C1, nI_1, up_s, sub1 (by omega), Nat.add_sub_cancel]
        · rw [oE _ _ (by omega) (by omega) (by omega) (by omega), b7 _ _ (by omega)]; exact a3
        · rw [oE _ _ (by omega) (by omega) (by omega) (by omega)]
          by_cases e : p = np
          · rw [e, fN, b7 _ _ (by omega)]
          · rw [o2 _ _ (by omega), fO p e]; exact ((h7 p (by omega)).1 w hw).1
        · rw [up_c (by omega)]
          by_cases e : p = np
          · rw [e, fN]
            have : w = 0 ∨ w = 1 ∨ w = 2 ∨ w = 3 ∨ w = 4 ∨ w = 5 := by omega
            rcases this with rfl | rfl | rfl | rfl | rfl | rfl
            · rw [c2.1, a2.1]
            · rw [c2.2.1, a2.2.1]
            · rw [c2.2.2.1, a2.2.2.1]
            · rw [c2.2.2.2.1, a2.2.2.2.1]
            · rw [c2.2.2.2.2.1, a2.2.2.2.2.1]
            · rw [c2.2.2.2.2.2, a2.2.2.2.2.2.1]
          · rw [c3 _ (by omega), hB _ _ (by omega) (by omega), o2 _ _ (by omega), fO p e]; exact ((h7 p (by omega)).1 w hw).2
        · rw [oE _ _ (by omega) (by omega) (by omega) (by omega)]
          by_cases e : p = np
          · rw [e, at1_s, b7 _ _ (by omega)]; exact a2.2.2.2.2.2.2
          · rw [o2 _ _ (by omega), at1_n e]; exact (h7 p (by omega)).2.1
        · by_cases e : p = np
          · rw [e, at1_s]; exact stored_off (by omega) (fun w => oE _ w (by omega) (by omega) (by omega) (by omega)) (fun w => oE _ w (by omega) (by omega) (by omega) (by omega)) b4
          · rw [at1_n e]; exact stored_off (by omega) (fun w => by rw [oE _ _ (by omega) (by omega) (by omega) (by omega), o2 _ _ (by omega)]) (fun w => by rw [oE _ _ (by omega) (by omega) (by omega) (by omega), o2 _ _ (by omega)]) (h7 p (by omega)).2.2
        · by_cases e : p = np
          · subst e
            have kd : ∀ {w : Int32}, kid p w → szk dp w ≤ p := fun {w} hw => by
              rcases hw with rfl | ⟨c, hc, rfl⟩
              · rw [szk_n]; omega
              · rw [szk_c (by omega)]; have := (h8 c hc).2.2.2.2.2.1; omega
            have k1 := kd hx
            have k2 := kd hy
            have k3 := kd hz
            refine ⟨hprt p (by omega), by rw [at1_s]; omega, by rw [fN, at1_s]; exact a2.2.2.2.2.2.1, ⟨by rw [fN, a2.2.1]; exact hx, by rw [fN, a2.2.2.1]; exact hy, by rw [fN, a2.2.2.2.1]; exact hz⟩, ?_, by rw [at1_s]; omega, by rw [at1_s]; exact b2, by rw [at1_s]; exact b3⟩
            rw [fN, fN, fN, a2.2.1, a2.2.2.1, a2.2.2.2.1, at1_s, szk_cg h2 hx (fun c hc => at1_n (by omega)), szk_cg h2 hy (fun c hc => at1_n (by omega)), szk_cg h2 hz (fun c hc => at1_n (by omega))]
          · obtain ⟨g1, g2, g3, ⟨g4, g5, g6⟩, g7, g8, g9, g10⟩ := h8 p (by omega)
            refine ⟨hprt p hp, by rw [at1_n e]; exact g2, by rw [fO p e, at1_n e]; exact g3, ⟨by rw [fO p e]; exact g4, by rw [fO p e]; exact g5, by rw [fO p e]; exact g6⟩, ?_, by rw [at1_n e]; exact g8, by rw [at1_n e]; exact Rs_cg (fun j hj w => fO j (by omega) w) g9, by rw [at1_n e]; exact g10⟩
            rw [fO p e, fO p e, fO p e, at1_n e, szk_cg (np := p) (by omega) g4 (fun c hc => at1_n (by omega)), szk_cg (np := p) (by omega) g5 (fun c hc => at1_n (by omega)), szk_cg (np := p) (by omega) g6 (fun c hc => at1_n (by omega))]
            exact g7
theorem LOK_fail {rC : Option (gM × Int32)} {rR : gM → Option (gM × (Nat × Nat × Nat) × Int32)} (h : INV A cp np s F sz dp res) {kk : Nat} (hk : 1 ≤ kk) (hkb : kk ≤ 3) (e1 : rC = some (A, nI kk)) (e2 : rR A = some (g_up (g_up A 183 0 0) 183 0 (nI kk), (cp, 0, 0), 0)) : LOK cp s rC rR := by
  refine ⟨A, nI kk, e1, _, cp, 0, 0, 0, e2, up_s, fun q => ?_, ⟨h.2.2.2.1, by omega, by omega, by omega⟩, np, s, F, sz, dp, res, INV_off h (fun a x q => by rw [up_get, if_neg (by omega), up_get, if_neg (by omega)]) h.2.2.2.1 (fun i hi => by rw [up_c (by omega), up_c (by omega)]; exact h.2.2.2.2.1 i hi) (stI_off h.2.2.2.2.2.1 (by rw [up_c (by omega), up_c (by omega)]) (funext fun x => by rw [up_c (by omega), up_c (by omega)])), by omega⟩
  exact absurd q (by rw [eq0F (by omega) (by omega)]; exact id)
theorem LOK_add {rC : Option (gM × Int32)} {rR : gM → Option (gM × (Nat × Nat × Nat) × Int32)} (h : INV A cp np s F sz dp res) (hs : s + 360001 ≤ 1999990000) (hx : kid np x) (hy : kid np y) (hz : kid np z) (hnew : newP np F sz so x y z l) {kk : Nat} (hk : 1 ≤ kk) (hkb : kk ≤ 3)
    (c1 : mX5_add A so l x y z = some (A, .inr 2) → rC = some (A, nI kk)) (c2 : ∀ A1 v, mX5_add A so l x y z = some (A1, .inl v) → rC = some (g_up A1 192 0 v, 0))
    (c3 : ∀ B A' cp' k n v, B 183 1 = nI np → mX6_made 193 cp (g_up B 183 0 0) so x y z l (nI kk) = some (A', (cp', k, n), v) → rR B = some (A', (cp', 0 + k, 0 + n), v)) : LOK cp s rC rR := by
  rcases add_ok h hs hx hy hz hnew (nI kk) with ⟨q1, q2⟩ | ⟨A1, s1, q1, q2, q3, q4⟩
  · refine LOK_fail h hk hkb (c1 q1) ?_
    have hRM := INV_RM h
    have := q2 (g_up A 183 0 0) ⟨hRM.1, fun i hi => by rw [up_c (by omega)]; exact hRM.2.1 i hi, by rw [up_p (by omega)]; exact hRM.2.2.1, hRM.2.2.2.1, fun p hp w hw => by rw [up_c (by omega)]; exact hRM.2.2.2.2.1 p hp w hw, hRM.2.2.2.2.2⟩
    exact c3 A _ _ _ _ _ h.2.2.1 this
  · obtain ⟨B', b1, b2, b3, F', sz', dp', res', b4⟩ := q4 (g_up (g_up A1 192 0 (nI np)) 183 0 0) (fun a w z1 z2 => by rw [up_get, if_neg z2, up_c z1])
    refine ⟨_, 0, c2 _ _ q1, B', cp, _, _, nI np, c3 _ _ _ _ _ _ (by rw [up_c (by omega)]; exact q3) b1, by rw [b2, up_s], fun _ => by rw [b3, up_c (by omega), up_s], ⟨h.2.2.2.1, by omega, by omega, by omega⟩, np + 1, s1, F', sz', dp', res', b4, by omega⟩
theorem kid_of {w : Int32} (h : inR w np) : kid np w := by obtain ⟨j, h1, h2⟩ := h; exact Or.inr ⟨j, h1, h2⟩
theorem k_plain (h : INV A cp np s F sz dp res) (hs : s + 360001 ≤ 1999990000) (w0 : Int32) : LOK cp s (mL_plain A w0) (fun B => mX6_plain 193 cp B w0) := by
  have hn := h.2.1
  rcases inR_dec w0 2 with i0 | i0
  rotate_left
  · refine LOK_fail h (kk := 1) (by omega) (by omega) ?_ ?_
    · have t : mX5_plain A w0 = some (A, .inr 1) := by
        unfold mX5_plain mX5_plain_b0
        rw [bnd (betw_no (n := 2) (by omega) (by omega) (by decide +kernel) i0)]
        all_goals rfl
      unfold mL_plain mL_plain_b0
      rw [bnd t]
      dsimp only [g_ct]
      simp only [Nat.reduceEqDiff, if_true, if_false, ↓reduceIte, one_nI, lq2, lq3, reduceCtorEq, Nat.zero_ne_one, Nat.one_ne_zero]
    · show mX6_plain 193 cp A w0 = _
      unfold mX6_plain mX6_plain_b0 mX6_plain_b32
      rw [gle]
      rw [bnd (isIn_no (cp := cp) (A := g_up A 183 0 0) (n := 2) (by omega) (by decide +kernel) i0)]
      dsimp only
      rw [if_pos rfl, rfail0]
      rw [obe]
      simp only [one_nI, lq2, lq3]
  obtain ⟨j, hj, rfl⟩ := i0
  have i0 : inR (nI j) 2 := ⟨j, hj, rfl⟩
  refine LOK_add (so := (nI j)) (l := (-1)) (x := (-1)) (y := (-1)) (z := (-1)) (kk := 2) h hs (Or.inl rfl) (Or.inl rfl) (Or.inl rfl) ?_ (by omega) (by omega) (fun q => ?_) (fun A1 v q => ?_) (fun B A' cp' k n v hB q => ?_)
  · intro F' sz' f0 f1 f2 f3 f4 hsz hsn
    refine Or.inl ⟨j, hj, f0, ?_⟩
    rw [hsn, szk_n]
  · have t : mX5_plain A (nI j) = some (A, .inr 2) := by
      unfold mX5_plain mX5_plain_b0
      rw [bnd (betw_ok (n := 2) (by omega) (by omega) (by decide +kernel) i0)]
      dsimp only [g_tr]
      unfold mX5_plain_b17
      have z : j = 0 ∨ j = 1 := by omega
      rcases z with rfl | rfl
      · rw [if_pos nI0]
        rw [nI0] at q
        rw [bnd q]
        all_goals rfl
      · rw [if_neg (by decide +kernel)]
        rw [← one_nI] at q
        rw [bnd q]
        all_goals rfl
    unfold mL_plain mL_plain_b0
    rw [bnd t]
    dsimp only [g_ct]
    simp only [Nat.reduceEqDiff, if_true, if_false, ↓reduceIte, one_nI, lq2, lq3, reduceCtorEq]
  · have t : mX5_plain A (nI j) = some (A1, .inl v) := by
      unfold mX5_plain mX5_plain_b0
      rw [bnd (betw_ok (n := 2) (by omega) (by omega) (by decide +kernel) i0)]
      dsimp only [g_tr]
      unfold mX5_plain_b17
      have z : j = 0 ∨ j = 1 := by omega
      rcases z with rfl | rfl
      · rw [if_pos nI0]
        rw [nI0] at q
        rw [bnd q]
        all_goals rfl
      · rw [if_neg (by decide +kernel)]
        rw [← one_nI] at q
        rw [bnd q]
        all_goals rfl
    unfold mL_plain mL_plain_b0
    rw [bnd t]
    dsimp only [g_ct]
    rw [if_pos (by decide), gle, cl0]
  · show mX6_plain 193 cp B (nI j) = _
    unfold mX6_plain mX6_plain_b0 mX6_plain_b24 mX6_plain_b32
    rw [gle]
    rw [bnd (isIn_ok (cp := cp) (A := g_up B 183 0 0) (n := 2) (by omega) (by decide +kernel) i0)]
    dsimp only
    rw [if_neg (by decide)]
    rw [← lq2] at q
    rw [bnd q]
theorem k_name (h : INV A cp np s F sz dp res) (hs : s + 360001 ≤ 1999990000) (w0 : Int32) : LOK cp s (mL_name A w0) (fun B => mX6_name 193 cp B w0) := by
  have hn := h.2.1
  rcases inR_dec w0 10 with i0 | i0
  rotate_left
  · refine LOK_fail h (kk := 1) (by omega) (by omega) ?_ ?_
    · have t : mX5_name A w0 = some (A, .inr 1) := by
        unfold mX5_name mX5_name_b0
        rw [bnd (betw_no (n := 10) (by omega) (by omega) (by decide +kernel) i0)]
        all_goals rfl
      unfold mL_name mL_name_b0
      rw [bnd t]
      dsimp only [g_ct]
      simp only [Nat.reduceEqDiff, if_true, if_false, ↓reduceIte, one_nI, lq2, lq3, reduceCtorEq, Nat.zero_ne_one, Nat.one_ne_zero]
    · show mX6_name 193 cp A w0 = _
      unfold mX6_name mX6_name_b0 mX6_name_b30
      rw [gle]
      rw [bnd (isName_no (cp := cp) (A := g_up A 183 0 0) i0)]
      dsimp only
      rw [if_pos rfl, rfail0]
      rw [obe]
      simp only [one_nI, lq2, lq3]
  refine LOK_add (so := 2) (l := w0) (x := (-1)) (y := (-1)) (z := (-1)) (kk := 2) h hs (Or.inl rfl) (Or.inl rfl) (Or.inl rfl) ?_ (by omega) (by omega) (fun q => ?_) (fun A1 v q => ?_) (fun B A' cp' k n v hB q => ?_)
  · intro F' sz' f0 f1 f2 f3 f4 hsz hsn
    obtain ⟨j, hj, rfl⟩ := i0
    exact Or.inr (Or.inl ⟨by rw [f0, lq2], j, by omega, f4, by rw [hsn, szk_n]; all_goals omega⟩)
  · have t : mX5_name A w0 = some (A, .inr 2) := by
      unfold mX5_name mX5_name_b0
      rw [bnd (betw_ok (n := 10) (by omega) (by omega) (by decide +kernel) i0)]
      dsimp only [g_tr]
      rw [bnd q]
      all_goals rfl
    unfold mL_name mL_name_b0
    rw [bnd t]
    dsimp only [g_ct]
    simp only [Nat.reduceEqDiff, if_true, if_false, ↓reduceIte, one_nI, lq2, lq3, reduceCtorEq]
  · have t : mX5_name A w0 = some (A1, .inl v) := by
      unfold mX5_name mX5_name_b0
      rw [bnd (betw_ok (n := 10) (by omega) (by omega) (by decide +kernel) i0)]
      dsimp only [g_tr]
      rw [bnd q]
      all_goals rfl
    unfold mL_name mL_name_b0
    rw [bnd t]
    dsimp only [g_ct]
    rw [if_pos (by decide), gle, cl0]
  · show mX6_name 193 cp B w0 = _
    unfold mX6_name mX6_name_b0 mX6_name_b22 mX6_name_b30
    rw [gle]
    rw [bnd (isName_ok (cp := cp) (A := g_up B 183 0 0) i0)]
    dsimp only
    rw [if_neg (by decide)]
    rw [← lq2] at q
    rw [bnd q]
theorem k_wheel (h : INV A cp np s F sz dp res) (hs : s + 360001 ≤ 1999990000) (w0 w1 : Int32) : LOK cp s (mL_wheel A w0 w1) (fun B => mX6_wheel 193 cp B w0 w1) := by
  have hn := h.2.1
  rcases inR_dec w1 np with i0 | i0
  rotate_left
  · refine LOK_fail h (kk := 1) (by omega) (by omega) ?_ ?_
    · have t : mX5_wheel A w0 w1 = some (A, .inr 0) := by
        unfold mX5_wheel mX5_wheel_b0
        rw [bnd (part_no h.1 hn i0)]
        all_goals rfl
      unfold mL_wheel mL_wheel_b0
      rw [bnd t]
      dsimp only [g_ct]
      simp only [Nat.reduceEqDiff, if_true, if_false, ↓reduceIte, one_nI, lq2, lq3, reduceCtorEq, Nat.zero_ne_one, Nat.one_ne_zero]
    · show mX6_wheel 193 cp A w0 w1 = _
      unfold mX6_wheel mX6_wheel_b0 mX6_wheel_b44
      rw [gle]
      rw [bnd (isPart_no (cp := cp) (A := g_up A 183 0 0) (by rw [up_p (by omega)]; exact h.2.2.1) hn i0)]
      dsimp only
      rw [if_pos rfl, rfail0]
      rw [obe]
      simp only [one_nI, lq2, lq3]
  rcases inR_dec w0 10 with i1 | i1
  rotate_left
  · refine LOK_fail h (kk := 2) (by omega) (by omega) ?_ ?_
    · have t : mX5_wheel A w0 w1 = some (A, .inr 1) := by
        unfold mX5_wheel mX5_wheel_b0
        rw [bnd (part_ok h.1 hn i0)]
        dsimp only [g_tr]
        rw [bnd (betw_no (n := 10) (by omega) (by omega) (by decide +kernel) i1)]
        all_goals rfl
      unfold mL_wheel mL_wheel_b0
      rw [bnd t]
      dsimp only [g_ct]
      simp only [Nat.reduceEqDiff, if_true, if_false, ↓reduceIte, one_nI, lq2, lq3, reduceCtorEq, Nat.zero_ne_one, Nat.one_ne_zero]
    · show mX6_wheel 193 cp A w0 w1 = _
      unfold mX6_wheel mX6_wheel_b0 mX6_wheel_b44
      rw [gle]
      rw [bnd (isPart_ok (cp := cp) (A := g_up A 183 0 0) (by rw [up_p (by omega)]; exact h.2.2.1) hn i0)]
      dsimp only
      rw [if_neg (by decide)]
      rw [bnd (isName_no (cp := cp) (A := g_up A 183 0 0) i1)]
      dsimp only
      rw [if_pos rfl, rfail0]
      rw [obe]
      simp only [one_nI, lq2, lq3]
  refine LOK_add (so := 3) (l := w0) (x := w1) (y := (-1)) (z := (-1)) (kk := 3) h hs (kid_of i0) (Or.inl rfl) (Or.inl rfl) ?_ (by omega) (by omega) (fun q => ?_) (fun A1 v q => ?_) (fun B A' cp' k n v hB q => ?_)
  · intro F' sz' f0 f1 f2 f3 f4 hsz hsn
    obtain ⟨a, ha, rfl⟩ := i0
    obtain ⟨j, hj, rfl⟩ := i1
    exact Or.inr (Or.inr (Or.inl ⟨by rw [f0, lq3], a, j, ha, by omega, f1, f4, by rw [hsn, szk_n, szk_c (by omega), hsz a ha]; all_goals omega⟩))
  · have t : mX5_wheel A w0 w1 = some (A, .inr 2) := by
      unfold mX5_wheel mX5_wheel_b0
      rw [bnd (part_ok h.1 hn i0)]
      dsimp only [g_tr]
      rw [bnd (betw_ok (n := 10) (by omega) (by omega) (by decide +kernel) i1)]
      dsimp only [g_tr]
      rw [bnd q]
      all_goals rfl
    unfold mL_wheel mL_wheel_b0
    rw [bnd t]
    dsimp only [g_ct]
    simp only [Nat.reduceEqDiff, if_true, if_false, ↓reduceIte, one_nI, lq2, lq3, reduceCtorEq]
  · have t : mX5_wheel A w0 w1 = some (A1, .inl v) := by
      unfold mX5_wheel mX5_wheel_b0
      rw [bnd (part_ok h.1 hn i0)]
      dsimp only [g_tr]
      rw [bnd (betw_ok (n := 10) (by omega) (by omega) (by decide +kernel) i1)]
      dsimp only [g_tr]
      rw [bnd q]
      all_goals rfl
    unfold mL_wheel mL_wheel_b0
    rw [bnd t]
    dsimp only [g_ct]
    rw [if_pos (by decide), gle, cl0]
  · show mX6_wheel 193 cp B w0 w1 = _
    unfold mX6_wheel mX6_wheel_b0 mX6_wheel_b36 mX6_wheel_b44
    rw [gle]
    rw [bnd (isPart_ok (cp := cp) (A := g_up B 183 0 0) (by rw [up_p (by omega)]; exact hB) hn i0)]
    dsimp only
    rw [if_neg (by decide)]
    rw [bnd (isName_ok (cp := cp) (A := g_up B 183 0 0) i1)]
    dsimp only
    rw [if_neg (by decide)]
    rw [← lq3] at q
    rw [bnd q]
theorem k_turn (h : INV A cp np s F sz dp res) (hs : s + 360001 ≤ 1999990000) (w0 w1 : Int32) : LOK cp s (mL_turn A w0 w1) (fun B => mX6_turn 193 cp B w0 w1) := by
  have hn := h.2.1
  rcases inR_dec w0 np with i0 | i0
  rotate_left
  · refine LOK_fail h (kk := 1) (by omega) (by omega) ?_ ?_
    · have t : mX5_turn A w0 w1 = some (A, .inr 0) := by
        unfold mX5_turn mX5_turn_b0
        rw [bnd (part_no h.1 hn i0)]
        all_goals rfl
      unfold mL_turn mL_turn_b0
      rw [bnd t]
      dsimp only [g_ct]
      simp only [Nat.reduceEqDiff, if_true, if_false, ↓reduceIte, one_nI, lq2, lq3, reduceCtorEq, Nat.zero_ne_one, Nat.one_ne_zero]
    · show mX6_turn 193 cp A w0 w1 = _
      unfold mX6_turn mX6_turn_b0 mX6_turn_b34 mX6_turn_b39
      rw [gle]
      rw [bnd (isPart_no (cp := cp) (A := g_up A 183 0 0) (by rw [up_p (by omega)]; exact h.2.2.1) hn i0)]
      dsimp only
      rw [if_pos rfl, rfail0]
      rw [obe]
      simp only [one_nI, lq2, lq3]
  rcases inR_dec w1 np with i1 | i1
  rotate_left
  · refine LOK_fail h (kk := 1) (by omega) (by omega) ?_ ?_
    · have t : mX5_turn A w0 w1 = some (A, .inr 0) := by
        unfold mX5_turn mX5_turn_b0
        rw [bnd (part_ok h.1 hn i0)]
        dsimp only [g_tr]
        rw [bnd (part_no h.1 hn i1)]
        all_goals rfl
      unfold mL_turn mL_turn_b0
      rw [bnd t]
      dsimp only [g_ct]
      simp only [Nat.reduceEqDiff, if_true, if_false, ↓reduceIte, one_nI, lq2, lq3, reduceCtorEq, Nat.zero_ne_one, Nat.one_ne_zero]
    · show mX6_turn 193 cp A w0 w1 = _
      unfold mX6_turn mX6_turn_b0 mX6_turn_b34 mX6_turn_b39
      rw [gle]
      rw [bnd (isPart_ok (cp := cp) (A := g_up A 183 0 0) (by rw [up_p (by omega)]; exact h.2.2.1) hn i0)]
      dsimp only
      rw [if_neg (by decide)]
      rw [bnd (isPart_no (cp := cp) (A := g_up A 183 0 0) (by rw [up_p (by omega)]; exact h.2.2.1) hn i1)]
      dsimp only
      rw [if_pos rfl, rfail0]
      rw [obe]
      simp only [one_nI, lq2, lq3]
  refine LOK_add (so := 4) (l := (-1)) (x := w0) (y := w1) (z := (-1)) (kk := 2) h hs (kid_of i0) (kid_of i1) (Or.inl rfl) ?_ (by omega) (by omega) (fun q => ?_) (fun A1 v q => ?_) (fun B A' cp' k n v hB q => ?_)
  · intro F' sz' f0 f1 f2 f3 f4 hsz hsn
    obtain ⟨a, ha, rfl⟩ := i0
    obtain ⟨d, hd, rfl⟩ := i1
    exact Or.inr (Or.inr (Or.inr (Or.inl ⟨by rw [f0, lq4], a, d, ha, hd, f1, f2, by rw [hsn, szk_n, szk_c (by omega), szk_c (by omega), hsz a ha, hsz d hd]; all_goals omega⟩)))
  · have t : mX5_turn A w0 w1 = some (A, .inr 2) := by
      unfold mX5_turn mX5_turn_b0
      rw [bnd (part_ok h.1 hn i0)]
      dsimp only [g_tr]
      rw [bnd (part_ok h.1 hn i1)]
      dsimp only [g_tr]
      rw [bnd q]
      all_goals rfl
    unfold mL_turn mL_turn_b0
    rw [bnd t]
    dsimp only [g_ct]
    simp only [Nat.reduceEqDiff, if_true, if_false, ↓reduceIte, one_nI, lq2, lq3, reduceCtorEq]
  · have t : mX5_turn A w0 w1 = some (A1, .inl v) := by
      unfold mX5_turn mX5_turn_b0
      rw [bnd (part_ok h.1 hn i0)]
      dsimp only [g_tr]
      rw [bnd (part_ok h.1 hn i1)]
      dsimp only [g_tr]
      rw [bnd q]
      all_goals rfl
    unfold mL_turn mL_turn_b0
    rw [bnd t]
    dsimp only [g_ct]
    rw [if_pos (by decide), gle, cl0]
  · show mX6_turn 193 cp B w0 w1 = _
    unfold mX6_turn mX6_turn_b0 mX6_turn_b31 mX6_turn_b39
    rw [gle]
    rw [bnd (isPart_ok (cp := cp) (A := g_up B 183 0 0) (by rw [up_p (by omega)]; exact hB) hn i0)]
    dsimp only
    rw [if_neg (by decide)]
    rw [bnd (isPart_ok (cp := cp) (A := g_up B 183 0 0) (by rw [up_p (by omega)]; exact hB) hn i1)]
    dsimp only
    rw [if_neg (by decide)]
    rw [← lq2] at q
    rw [bnd q]
theorem k_tell (h : INV A cp np s F sz dp res) (hs : s + 360001 ≤ 1999990000) (w0 w1 w2 : Int32) : LOK cp s (mL_tell A w0 w1 w2) (fun B => mX6_tell 193 cp B w0 w1 w2) := by
  have hn := h.2.1
  rcases inR_dec w1 np with i0 | i0
  rotate_left
  · refine LOK_fail h (kk := 1) (by omega) (by omega) ?_ ?_
    · have t : mX5_tell A w0 w1 w2 = some (A, .inr 0) := by
        unfold mX5_tell mX5_tell_b0
        rw [bnd (part_no h.1 hn i0)]
        all_goals rfl
      unfold mL_tell mL_tell_b0
      rw [bnd t]
      dsimp only [g_ct]
      simp only [Nat.reduceEqDiff, if_true, if_false, ↓reduceIte, one_nI, lq2, lq3, reduceCtorEq, Nat.zero_ne_one, Nat.one_ne_zero]
    · show mX6_tell 193 cp A w0 w1 w2 = _
      unfold mX6_tell mX6_tell_b0 mX6_tell_b21 mX6_tell_b52
      rw [gle]
      rw [bnd (isPart_no (cp := cp) (A := g_up A 183 0 0) (by rw [up_p (by omega)]; exact h.2.2.1) hn i0)]
      dsimp only
      rw [if_pos rfl, rfail0]
      rw [obe]
      simp only [one_nI, lq2, lq3]
  rcases inR_dec w2 np with i1 | i1
  rotate_left
  · refine LOK_fail h (kk := 1) (by omega) (by omega) ?_ ?_
    · have t : mX5_tell A w0 w1 w2 = some (A, .inr 0) := by
        unfold mX5_tell mX5_tell_b0
        rw [bnd (part_ok h.1 hn i0)]
        dsimp only [g_tr]
        rw [bnd (part_no h.1 hn i1)]
        all_goals rfl
      unfold mL_tell mL_tell_b0
      rw [bnd t]
      dsimp only [g_ct]
      simp only [Nat.reduceEqDiff, if_true, if_false, ↓reduceIte, one_nI, lq2, lq3, reduceCtorEq, Nat.zero_ne_one, Nat.one_ne_zero]
    · show mX6_tell 193 cp A w0 w1 w2 = _
      unfold mX6_tell mX6_tell_b0 mX6_tell_b21 mX6_tell_b52
      rw [gle]
      rw [bnd (isPart_ok (cp := cp) (A := g_up A 183 0 0) (by rw [up_p (by omega)]; exact h.2.2.1) hn i0)]
      dsimp only
      rw [if_neg (by decide)]
      rw [bnd (isPart_no (cp := cp) (A := g_up A 183 0 0) (by rw [up_p (by omega)]; exact h.2.2.1) hn i1)]
      dsimp only
      rw [if_pos rfl, rfail0]
      rw [obe]
      simp only [one_nI, lq2, lq3]
  rcases inR_dec w0 10 with i2 | i2
  rotate_left
  · refine LOK_fail h (kk := 2) (by omega) (by omega) ?_ ?_
    · have t : mX5_tell A w0 w1 w2 = some (A, .inr 1) := by
        unfold mX5_tell mX5_tell_b0
        rw [bnd (part_ok h.1 hn i0)]
        dsimp only [g_tr]
        rw [bnd (part_ok h.1 hn i1)]
        dsimp only [g_tr]
        rw [bnd (betw_no (n := 10) (by omega) (by omega) (by decide +kernel) i2)]
        all_goals rfl
      unfold mL_tell mL_tell_b0
      rw [bnd t]
      dsimp only [g_ct]
      simp only [Nat.reduceEqDiff, if_true, if_false, ↓reduceIte, one_nI, lq2, lq3, reduceCtorEq, Nat.zero_ne_one, Nat.one_ne_zero]
    · show mX6_tell 193 cp A w0 w1 w2 = _
      unfold mX6_tell mX6_tell_b0 mX6_tell_b21 mX6_tell_b52
      rw [gle]
      rw [bnd (isPart_ok (cp := cp) (A := g_up A 183 0 0) (by rw [up_p (by omega)]; exact h.2.2.1) hn i0)]
      dsimp only
      rw [if_neg (by decide)]
      rw [bnd (isPart_ok (cp := cp) (A := g_up A 183 0 0) (by rw [up_p (by omega)]; exact h.2.2.1) hn i1)]
      dsimp only
      rw [if_neg (by decide)]
      rw [bnd (isName_no (cp := cp) (A := g_up A 183 0 0) i2)]
      dsimp only
      rw [if_pos rfl, rfail0]
      rw [obe]
      simp only [one_nI, lq2, lq3]
  refine LOK_add (so := 5) (l := w0) (x := w1) (y := w2) (z := (-1)) (kk := 3) h hs (kid_of i0) (kid_of i1) (Or.inl rfl) ?_ (by omega) (by omega) (fun q => ?_) (fun A1 v q => ?_) (fun B A' cp' k n v hB q => ?_)
  · intro F' sz' f0 f1 f2 f3 f4 hsz hsn
    obtain ⟨a, ha, rfl⟩ := i0
    obtain ⟨d, hd, rfl⟩ := i1
    obtain ⟨j, hj, rfl⟩ := i2
    exact Or.inr (Or.inr (Or.inr (Or.inr (Or.inl ⟨by rw [f0, lq5], a, d, j, ha, hd, by omega, f1, f2, f4, by rw [hsn, szk_n, szk_c (by omega), szk_c (by omega), hsz a ha, hsz d hd]; all_goals omega⟩))))
  · have t : mX5_tell A w0 w1 w2 = some (A, .inr 2) := by
      unfold mX5_tell mX5_tell_b0
      rw [bnd (part_ok h.1 hn i0)]
      dsimp only [g_tr]
      rw [bnd (part_ok h.1 hn i1)]
      dsimp only [g_tr]
      rw [bnd (betw_ok (n := 10) (by omega) (by omega) (by decide +kernel) i2)]
      dsimp only [g_tr]
      rw [bnd q]
      all_goals rfl
    unfold mL_tell mL_tell_b0
    rw [bnd t]
    dsimp only [g_ct]
    simp only [Nat.reduceEqDiff, if_true, if_false, ↓reduceIte, one_nI, lq2, lq3, reduceCtorEq]
  · have t : mX5_tell A w0 w1 w2 = some (A1, .inl v) := by
      unfold mX5_tell mX5_tell_b0
      rw [bnd (part_ok h.1 hn i0)]
      dsimp only [g_tr]
      rw [bnd (part_ok h.1 hn i1)]
      dsimp only [g_tr]
      rw [bnd (betw_ok (n := 10) (by omega) (by omega) (by decide +kernel) i2)]
      dsimp only [g_tr]
      rw [bnd q]
      all_goals rfl
    unfold mL_tell mL_tell_b0
    rw [bnd t]
    dsimp only [g_ct]
    rw [if_pos (by decide), gle, cl0]
  · show mX6_tell 193 cp B w0 w1 w2 = _
    unfold mX6_tell mX6_tell_b0 mX6_tell_b44 mX6_tell_b52
    rw [gle]
    rw [bnd (isPart_ok (cp := cp) (A := g_up B 183 0 0) (by rw [up_p (by omega)]; exact hB) hn i0)]
    dsimp only
    rw [if_neg (by decide)]
    rw [bnd (isPart_ok (cp := cp) (A := g_up B 183 0 0) (by rw [up_p (by omega)]; exact hB) hn i1)]
    dsimp only
    rw [if_neg (by decide)]
    rw [bnd (isName_ok (cp := cp) (A := g_up B 183 0 0) i2)]
    dsimp only
    rw [if_neg (by decide)]
    rw [← lq3] at q
    rw [bnd q]
theorem k_axle (h : INV A cp np s F sz dp res) (hs : s + 360001 ≤ 1999990000) (w0 w1 : Int32) : LOK cp s (mL_axle A w0 w1) (fun B => mX6_axle 193 cp B w0 w1) := by
  have hn := h.2.1
  rcases inR_dec w0 np with i0 | i0
  rotate_left
  · refine LOK_fail h (kk := 1) (by omega) (by omega) ?_ ?_
    · have t : mX5_axle A w0 w1 = some (A, .inr 0) := by
        unfold mX5_axle mX5_axle_b0
        rw [bnd (part_no h.1 hn i0)]
        all_goals rfl
      unfold mL_axle mL_axle_b0
      rw [bnd t]
      dsimp only [g_ct]
      simp only [Nat.reduceEqDiff, if_true, if_false, ↓reduceIte, one_nI, lq2, lq3, reduceCtorEq, Nat.zero_ne_one, Nat.one_ne_zero]
    · show mX6_axle 193 cp A w0 w1 = _
      unfold mX6_axle mX6_axle_b0 mX6_axle_b35 mX6_axle_b40
      rw [gle]
      rw [bnd (isPart_no (cp := cp) (A := g_up A 183 0 0) (by rw [up_p (by omega)]; exact h.2.2.1) hn i0)]
      dsimp only
      rw [if_pos rfl, rfail0]
      rw [obe]
      simp only [one_nI, lq2, lq3]
  rcases inR_dec w1 np with i1 | i1
  rotate_left
  · refine LOK_fail h (kk := 1) (by omega) (by omega) ?_ ?_
    · have t : mX5_axle A w0 w1 = some (A, .inr 0) := by
        unfold mX5_axle mX5_axle_b0
        rw [bnd (part_ok h.1 hn i0)]
        dsimp only [g_tr]
        rw [bnd (part_no h.1 hn i1)]
        all_goals rfl
      unfold mL_axle mL_axle_b0
      rw [bnd t]
      dsimp only [g_ct]
      simp only [Nat.reduceEqDiff, if_true, if_false, ↓reduceIte, one_nI, lq2, lq3, reduceCtorEq, Nat.zero_ne_one, Nat.one_ne_zero]
    · show mX6_axle 193 cp A w0 w1 = _
      unfold mX6_axle mX6_axle_b0 mX6_axle_b35 mX6_axle_b40
      rw [gle]
      rw [bnd (isPart_ok (cp := cp) (A := g_up A 183 0 0) (by rw [up_p (by omega)]; exact h.2.2.1) hn i0)]
      dsimp only
      rw [if_neg (by decide)]
      rw [bnd (isPart_no (cp := cp) (A := g_up A 183 0 0) (by rw [up_p (by omega)]; exact h.2.2.1) hn i1)]
      dsimp only
      rw [if_pos rfl, rfail0]
      rw [obe]
      simp only [one_nI, lq2, lq3]
  refine LOK_add (so := 6) (l := (-1)) (x := w0) (y := w1) (z := (-1)) (kk := 2) h hs (kid_of i0) (kid_of i1) (Or.inl rfl) ?_ (by omega) (by omega) (fun q => ?_) (fun A1 v q => ?_) (fun B A' cp' k n v hB q => ?_)
  · intro F' sz' f0 f1 f2 f3 f4 hsz hsn
    obtain ⟨a, ha, rfl⟩ := i0
    obtain ⟨d, hd, rfl⟩ := i1
    exact Or.inr (Or.inr (Or.inr (Or.inr (Or.inr (Or.inl ⟨by rw [f0, lq6], a, d, ha, hd, f1, f2, by rw [hsn, szk_n, szk_c (by omega), szk_c (by omega), hsz a ha, hsz d hd]; all_goals omega⟩)))))
  · have t : mX5_axle A w0 w1 = some (A, .inr 2) := by
      unfold mX5_axle mX5_axle_b0
      rw [bnd (part_ok h.1 hn i0)]
      dsimp only [g_tr]
      rw [bnd (part_ok h.1 hn i1)]
      dsimp only [g_tr]
      rw [bnd q]
      all_goals rfl
    unfold mL_axle mL_axle_b0
    rw [bnd t]
    dsimp only [g_ct]
    simp only [Nat.reduceEqDiff, if_true, if_false, ↓reduceIte, one_nI, lq2, lq3, reduceCtorEq]
  · have t : mX5_axle A w0 w1 = some (A1, .inl v) := by
      unfold mX5_axle mX5_axle_b0
      rw [bnd (part_ok h.1 hn i0)]
      dsimp only [g_tr]
      rw [bnd (part_ok h.1 hn i1)]
      dsimp only [g_tr]
      rw [bnd q]
      all_goals rfl
    unfold mL_axle mL_axle_b0
    rw [bnd t]
    dsimp only [g_ct]
    rw [if_pos (by decide), gle, cl0]
  · show mX6_axle 193 cp B w0 w1 = _
    unfold mX6_axle mX6_axle_b0 mX6_axle_b32 mX6_axle_b40
    rw [gle]
    rw [bnd (isPart_ok (cp := cp) (A := g_up B 183 0 0) (by rw [up_p (by omega)]; exact hB) hn i0)]
    dsimp only
    rw [if_neg (by decide)]
    rw [bnd (isPart_ok (cp := cp) (A := g_up B 183 0 0) (by rw [up_p (by omega)]; exact hB) hn i1)]
    dsimp only
    rw [if_neg (by decide)]
    rw [← lq2] at q
    rw [bnd q]
theorem k_end (h : INV A cp np s F sz dp res) (hs : s + 360001 ≤ 1999990000) (w0 w1 : Int32) : LOK cp s (mL_end A w0 w1) (fun B => mX6_end 193 cp B w0 w1) := by
  have hn := h.2.1
  rcases inR_dec w0 np with i0 | i0
  rotate_left
  · refine LOK_fail h (kk := 1) (by omega) (by omega) ?_ ?_
    · have t : mX5_end A w0 w1 = some (A, .inr 0) := by
        unfold mX5_end mX5_end_b0
        rw [bnd (part_no h.1 hn i0)]
        all_goals rfl
      unfold mL_end mL_end_b0
      rw [bnd t]
      dsimp only [g_ct]
      simp only [Nat.reduceEqDiff, if_true, if_false, ↓reduceIte, one_nI, lq2, lq3, reduceCtorEq, Nat.zero_ne_one, Nat.one_ne_zero]
    · show mX6_end 193 cp A w0 w1 = _
      unfold mX6_end mX6_end_b0 mX6_end_b47
      rw [gle]
      rw [bnd (isPart_no (cp := cp) (A := g_up A 183 0 0) (by rw [up_p (by omega)]; exact h.2.2.1) hn i0)]
      dsimp only
      rw [if_pos rfl, rfail0]
      rw [obe]
      simp only [one_nI, lq2, lq3]
  rcases inR_dec w1 2 with i1 | i1
  rotate_left
  · refine LOK_fail h (kk := 2) (by omega) (by omega) ?_ ?_
    · have t : mX5_end A w0 w1 = some (A, .inr 1) := by
        unfold mX5_end mX5_end_b0
        rw [bnd (part_ok h.1 hn i0)]
        dsimp only [g_tr]
        rw [bnd (betw_no (n := 2) (by omega) (by omega) (by decide +kernel) i1)]
        all_goals rfl
      unfold mL_end mL_end_b0
      rw [bnd t]
      dsimp only [g_ct]
      simp only [Nat.reduceEqDiff, if_true, if_false, ↓reduceIte, one_nI, lq2, lq3, reduceCtorEq, Nat.zero_ne_one, Nat.one_ne_zero]
    · show mX6_end 193 cp A w0 w1 = _
      unfold mX6_end mX6_end_b0 mX6_end_b47
      rw [gle]
      rw [bnd (isPart_ok (cp := cp) (A := g_up A 183 0 0) (by rw [up_p (by omega)]; exact h.2.2.1) hn i0)]
      dsimp only
      rw [if_neg (by decide)]
      rw [bnd (isIn_no (cp := cp) (A := g_up A 183 0 0) (n := 2) (by omega) (by decide +kernel) i1)]
      dsimp only
      rw [if_pos rfl, rfail0]
      rw [obe]
      simp only [one_nI, lq2, lq3]
  refine LOK_add (so := 7) (l := w1) (x := w0) (y := (-1)) (z := (-1)) (kk := 3) h hs (kid_of i0) (Or.inl rfl) (Or.inl rfl) ?_ (by omega) (by omega) (fun q => ?_) (fun A1 v q => ?_) (fun B A' cp' k n v hB q => ?_)
  · intro F' sz' f0 f1 f2 f3 f4 hsz hsn
    obtain ⟨a, ha, rfl⟩ := i0
    obtain ⟨j, hj, rfl⟩ := i1
    exact Or.inr (Or.inr (Or.inr (Or.inr (Or.inr (Or.inr (Or.inl ⟨by rw [f0, lq7], a, j, ha, by omega, f1, f4, by rw [hsn, szk_n, szk_c (by omega), hsz a ha]; all_goals omega⟩))))))
  · have t : mX5_end A w0 w1 = some (A, .inr 2) := by
      unfold mX5_end mX5_end_b0
      rw [bnd (part_ok h.1 hn i0)]
      dsimp only [g_tr]
      rw [bnd (betw_ok (n := 2) (by omega) (by omega) (by decide +kernel) i1)]
      dsimp only [g_tr]
      rw [bnd q]
      all_goals rfl
    unfold mL_end mL_end_b0
    rw [bnd t]
    dsimp only [g_ct]
    simp only [Nat.reduceEqDiff, if_true, if_false, ↓reduceIte, one_nI, lq2, lq3, reduceCtorEq]
  · have t : mX5_end A w0 w1 = some (A1, .inl v) := by
      unfold mX5_end mX5_end_b0
      rw [bnd (part_ok h.1 hn i0)]
      dsimp only [g_tr]
      rw [bnd (betw_ok (n := 2) (by omega) (by omega) (by decide +kernel) i1)]
      dsimp only [g_tr]
      rw [bnd q]
      all_goals rfl
    unfold mL_end mL_end_b0
    rw [bnd t]
    dsimp only [g_ct]
    rw [if_pos (by decide), gle, cl0]
  · show mX6_end 193 cp B w0 w1 = _
    unfold mX6_end mX6_end_b0 mX6_end_b39 mX6_end_b47
    rw [gle]
    rw [bnd (isPart_ok (cp := cp) (A := g_up B 183 0 0) (by rw [up_p (by omega)]; exact hB) hn i0)]
    dsimp only
    rw [if_neg (by decide)]
    rw [bnd (isIn_ok (cp := cp) (A := g_up B 183 0 0) (n := 2) (by omega) (by decide +kernel) i1)]
    dsimp only
    rw [if_neg (by decide)]
    rw [← lq3] at q
    rw [bnd q]
theorem k_either (h : INV A cp np s F sz dp res) (hs : s + 360001 ≤ 1999990000) (w0 w1 w2 : Int32) : LOK cp s (mL_either A w0 w1 w2) (fun B => mX6_either 193 cp B w0 w1 w2) := by
  have hn := h.2.1
  rcases inR_dec w0 np with i0 | i0
  rotate_left
  · refine LOK_fail h (kk := 1) (by omega) (by omega) ?_ ?_
    · have t : mX5_either A w0 w1 w2 = some (A, .inr 0) := by
        unfold mX5_either mX5_either_b0
        rw [bnd (part_no h.1 hn i0)]
        all_goals rfl
      unfold mL_either mL_either_b0
      rw [bnd t]
      dsimp only [g_ct]
      simp only [Nat.reduceEqDiff, if_true, if_false, ↓reduceIte, one_nI, lq2, lq3, reduceCtorEq, Nat.zero_ne_one, Nat.one_ne_zero]
    · show mX6_either 193 cp A w0 w1 w2 = _
      unfold mX6_either mX6_either_b0 mX6_either_b43 mX6_either_b48
      rw [gle]
      rw [bnd (isPart_no (cp := cp) (A := g_up A 183 0 0) (by rw [up_p (by omega)]; exact h.2.2.1) hn i0)]
      dsimp only
      rw [if_pos rfl, rfail0]
      rw [obe]
      simp only [one_nI, lq2, lq3]
  rcases inR_dec w1 np with i1 | i1
  rotate_left
  · refine LOK_fail h (kk := 1) (by omega) (by omega) ?_ ?_
    · have t : mX5_either A w0 w1 w2 = some (A, .inr 0) := by
        unfold mX5_either mX5_either_b0
        rw [bnd (part_ok h.1 hn i0)]
        dsimp only [g_tr]
        rw [bnd (part_no h.1 hn i1)]
        all_goals rfl
      unfold mL_either mL_either_b0
      rw [bnd t]
      dsimp only [g_ct]
      simp only [Nat.reduceEqDiff, if_true, if_false, ↓reduceIte, one_nI, lq2, lq3, reduceCtorEq, Nat.zero_ne_one, Nat.one_ne_zero]
    · show mX6_either 193 cp A w0 w1 w2 = _
      unfold mX6_either mX6_either_b0 mX6_either_b43 mX6_either_b48
      rw [gle]
      rw [bnd (isPart_ok (cp := cp) (A := g_up A 183 0 0) (by rw [up_p (by omega)]; exact h.2.2.1) hn i0)]
      dsimp only
      rw [if_neg (by decide)]
      rw [bnd (isPart_no (cp := cp) (A := g_up A 183 0 0) (by rw [up_p (by omega)]; exact h.2.2.1) hn i1)]
      dsimp only
      rw [if_pos rfl, rfail0]
      rw [obe]
      simp only [one_nI, lq2, lq3]
  rcases inR_dec w2 np with i2 | i2
  rotate_left
  · refine LOK_fail h (kk := 1) (by omega) (by omega) ?_ ?_
    · have t : mX5_either A w0 w1 w2 = some (A, .inr 0) := by
        unfold mX5_either mX5_either_b0
        rw [bnd (part_ok h.1 hn i0)]
        dsimp only [g_tr]
        rw [bnd (part_ok h.1 hn i1)]
        dsimp only [g_tr]
        rw [bnd (part_no h.1 hn i2)]
        all_goals rfl
      unfold mL_either mL_either_b0
      rw [bnd t]
      dsimp only [g_ct]
      simp only [Nat.reduceEqDiff, if_true, if_false, ↓reduceIte, one_nI, lq2, lq3, reduceCtorEq, Nat.zero_ne_one, Nat.one_ne_zero]
    · show mX6_either 193 cp A w0 w1 w2 = _
      unfold mX6_either mX6_either_b0 mX6_either_b43 mX6_either_b48
      rw [gle]
      rw [bnd (isPart_ok (cp := cp) (A := g_up A 183 0 0) (by rw [up_p (by omega)]; exact h.2.2.1) hn i0)]
      dsimp only
      rw [if_neg (by decide)]
      rw [bnd (isPart_ok (cp := cp) (A := g_up A 183 0 0) (by rw [up_p (by omega)]; exact h.2.2.1) hn i1)]
      dsimp only
      rw [if_neg (by decide)]
      rw [bnd (isPart_no (cp := cp) (A := g_up A 183 0 0) (by rw [up_p (by omega)]; exact h.2.2.1) hn i2)]
      dsimp only
      rw [if_pos rfl, rfail0]
      rw [obe]
      simp only [one_nI, lq2, lq3]
  refine LOK_add (so := 8) (l := (-1)) (x := w0) (y := w1) (z := w2) (kk := 2) h hs (kid_of i0) (kid_of i1) (kid_of i2) ?_ (by omega) (by omega) (fun q => ?_) (fun A1 v q => ?_) (fun B A' cp' k n v hB q => ?_)
  · intro F' sz' f0 f1 f2 f3 f4 hsz hsn
    obtain ⟨a, ha, rfl⟩ := i0
    obtain ⟨d, hd, rfl⟩ := i1
    obtain ⟨e, he, rfl⟩ := i2
    exact Or.inr (Or.inr (Or.inr (Or.inr (Or.inr (Or.inr (Or.inr ⟨by rw [f0, lq8], a, d, e, ha, hd, he, f1, f2, f3, by rw [hsn, szk_c (by omega), szk_c (by omega), szk_c (by omega), hsz a ha, hsz d hd, hsz e he]; all_goals omega⟩))))))
  · have t : mX5_either A w0 w1 w2 = some (A, .inr 2) := by
      unfold mX5_either mX5_either_b0
      rw [bnd (part_ok h.1 hn i0)]
      dsimp only [g_tr]
      rw [bnd (part_ok h.1 hn i1)]
      dsimp only [g_tr]
      rw [bnd (part_ok h.1 hn i2)]
      dsimp only [g_tr]
      rw [bnd q]
      all_goals rfl
    unfold mL_either mL_either_b0
    rw [bnd t]
    dsimp only [g_ct]
    simp only [Nat.reduceEqDiff, if_true, if_false, ↓reduceIte, one_nI, lq2, lq3, reduceCtorEq]
  · have t : mX5_either A w0 w1 w2 = some (A1, .inl v) := by
      unfold mX5_either mX5_either_b0
      rw [bnd (part_ok h.1 hn i0)]
      dsimp only [g_tr]
      rw [bnd (part_ok h.1 hn i1)]
      dsimp only [g_tr]
      rw [bnd (part_ok h.1 hn i2)]
      dsimp only [g_tr]
      rw [bnd q]
      all_goals rfl
    unfold mL_either mL_either_b0
    rw [bnd t]
    dsimp only [g_ct]
    rw [if_pos (by decide), gle, cl0]
  · show mX6_either 193 cp B w0 w1 w2 = _
    unfold mX6_either mX6_either_b0 mX6_either_b40 mX6_either_b48
    rw [gle]
    rw [bnd (isPart_ok (cp := cp) (A := g_up B 183 0 0) (by rw [up_p (by omega)]; exact hB) hn i0)]
    dsimp only
    rw [if_neg (by decide)]
    rw [bnd (isPart_ok (cp := cp) (A := g_up B 183 0 0) (by rw [up_p (by omega)]; exact hB) hn i1)]
    dsimp only
    rw [if_neg (by decide)]
    rw [bnd (isPart_ok (cp := cp) (A := g_up B 183 0 0) (by rw [up_p (by omega)]; exact hB) hn i2)]
    dsimp only
    rw [if_neg (by decide)]
    rw [← lq2] at q
    rw [bnd q]
end AD
