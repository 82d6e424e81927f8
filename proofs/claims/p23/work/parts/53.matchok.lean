/-! MATCHING TWO TYPES: what it answers is what U answers -/
def off4 (A A' : gM) : Prop := ∀ a b, a ≠ 130 → a ≠ 131 → a ≠ 133 → a ≠ 134 → a ≠ 135 → a ≠ 136 → ¬ (a = 129 ∧ b = 10) → A' a b = A a b
theorem off4_rfl {A : gM} : off4 A A := fun _ _ _ _ _ _ _ _ _ => rfl
theorem off4_tr {A B C : gM} (h1 : off4 A B) (h2 : off4 B C) : off4 A C := fun a b q1 q2 q3 q4 q5 q6 q7 => (h2 a b q1 q2 q3 q4 q5 q6 q7).trans (h1 a b q1 q2 q3 q4 q5 q6 q7)
theorem off4_pp {A : gM} {t : Nat} {v w : Int32} : off4 A (ppA A t v w) := fun a b _ _ _ _ q5 q6 _ => ppA_else q5 q6
theorem off4_gv {A : gM} {a b : Nat} : off4 A (gvA A a b) := fun x y q1 q2 _ _ _ _ _ => gvA_else q1 q2
def MOut (u f : Nat) (A : gM) (T : Nat → Rw) (s top a b : Nat) : Prop :=
  ∃ g res, U g (T a) (T b) = some res ∧
    ((∃ n A' s' k, res = .inl n ∧ n ≤ 3 ∧ off4 A A' ∧ stI A' s' ∧ s' + sG A u ≤ s + 2601 ∧ k + 4 * sG A u ≤ 2 * f + 10401 ∧ ∀ F x, x + k < 1000000 → k ≤ F → mX4_match_L11 F A (nI (top + 1)) (nI x) = some (A', nI n)) ∨
     (∃ bs A' ch' s' k, res = .inr bs ∧ off4 A A' ∧ stI A' s' ∧ s' + sG A u ≤ s + sG A' u ∧ sT A' u (fun n => apL bs (T n)) ch' ∧ k + 4 * sG A u ≤ 1 + 4 * sG A' u ∧ (∀ j, j < top → A' 135 j = A 135 j ∧ A' 136 j = A 136 j) ∧
      (∀ n, n < u → (A' 130 n = A 130 n ∧ A' 131 n = A 131 n) ∨ (A' 130 n = nI 5 ∧ (A 130 n = nI 4 ∨ inf (apL bs (T n)) (apL bs (T a))))) ∧
      ∀ F x, x + k < 1000000 → mX4_match_L11 (F + k) A (nI (top + 1)) (nI x) = mX4_match_L11 F A' (nI top) (nI (x + k))))
def MP (u f : Nat) : Prop := ∀ (A : gM) (T : Nat → Rw) (ch : Nat → Nat) (s top a b d : Nat), sT A u T ch → stI A s → s ≤ 1999990000 + sG A u → A 135 top = nI a → A 136 top = nI b → a < u → b < u → abv T (fun n => n < u) a d → abv T (fun n => n < u) b d → u < f + d → top + 2 * f ≤ 5207 → MOut u f A T s top a b
theorem nv_head {A : gM} {u : Nat} {T : Nat → Rw} {ch : Nat → Nat} {m : Nat} (h : sT A u T ch) (hm : m < u) (h5 : A 130 m ≠ nI 5) (h4 : A 130 m ≠ nI 4) : ∃ x r, x < 4 ∧ A 130 m = nI x ∧ T m = x :: r ∧ (x < 2 → m = x) ∧ (2 ≤ x → 2 ≤ m ∧ (x = 2 ∨ x = 3) ∧ ∃ i j, i < u ∧ j < u ∧ A 131 m = nI i ∧ A 132 m = nI j ∧ T m = x :: (T i ++ T j)) := by
  rcases sN_kind (h.2.2.2.1 m hm) h5 with ⟨h2, hk, hT⟩ | ⟨h2, hk, hT⟩ | ⟨h2, c, i, j, hc, hi, hj, hk, hl, hr, hT⟩
  · exact ⟨m, [], by omega, hk, hT, fun _ => rfl, fun q => by omega⟩
  · exact absurd hk h4
  · exact ⟨c, T i ++ T j, by omega, hk, hT, fun q => by omega, fun _ => ⟨h2, hc, i, j, hi, hj, hl, hr, hT⟩⟩
theorem nvar_ne {A : gM} {u : Nat} {T : Nat → Rw} {ch : Nat → Nat} {m n : Nat} (h : sT A u T ch) (hn : n < u) (h5 : A 130 n ≠ nI 5) (hne : m ≠ n) : [100 + m] ≠ T n := by
  intro q
  rcases sN_kind (h.2.2.2.1 n hn) h5 with ⟨h2, hk, hT⟩ | ⟨h2, hk, hT⟩ | ⟨h2, c, i, j, hc, hi, hj, hk, hl, hr, hT⟩
  · rw [hT] at q; have := (List.cons.inj q).1; omega
  · rw [hT] at q; have := (List.cons.inj q).1; omega
  · rw [hT] at q; have := (List.cons.inj q).1; omega
theorem match_0 {u : Nat} : MP u 0 := fun A T ch s top a b d h _ _ _ _ _ _ ha _ hf _ => by
  have := abv_le ha (List.range u) fun k hk => List.mem_range.mpr hk
  rw [List.length_range] at this; omega
/-- a variable against another type -/
theorem match_var {u f : Nat} {A : gM} {T : Nat → Rw} {ch : Nat → Nat} {s top a b v o : Nat} (h : sT A u T ch) (hs : stI A s) (hsb : s ≤ 1999990000 + sG A u) (hv : v < u) (ho : o < u) (hvo : v ≠ o) (hv2 : 2 ≤ v) (h4 : A 130 v = nI 4) (hTv : T v = [100 + v]) (h5 : A 130 o ≠ nI 5)
    (hU : U 1 (T a) (T b) = some (if 100 + v ∈ T o then .inl 3 else .inr [(100 + v, T o)])) (hb11 : ∀ (K : gM → Int32 → Int32 → Option (gM × Int32)) (x : Nat), x < 1000000 → mX4_match_b11 K A (nI (top + 1)) (nI x) = mX4_match_b145 K A (nI top) (nI x) (nI v) (nI o)) : MOut u (f + 1) A T s top a b := by
  have hu := h.2.2.1
  have hsg : sG A u ≤ u := sG_le
  obtain ⟨A1, e1, st1, nm1, fr1⟩ := forget_ok hs (by omega)
  have s1 : sameS A A1 := ⟨fr1 _ _ (by omega), funext fun b => fr1 _ b (by omega), funext fun b => fr1 _ b (by omega), funext fun b => fr1 _ b (by omega)⟩
  obtain ⟨A2, e2, fr2, st2, cl2, mk2⟩ := markWithin_ok (sT_same s1 h) st1 ho (fun m hm q => absurd q (nm1 m (by omega)))
  have s2 := sameS_tr s1 (offM_S fr2)
  have hT2 := sT_same s2 h
  have o2 : off4 A A2 := fun x y q1 q2 q3 q4 q5 q6 q7 => by rw [fr2 x y q3 q4, fr1 x y q7]
  have k4 : A2 130 v = nI 4 := by rw [s2.2.1]; exact h4
  have k5 : A2 130 o ≠ nI 5 := by rw [s2.2.1]; exact h5
  have g2 : sG A2 u = sG A u := sG_same s2
  have hmk : mkd A2 v ↔ 100 + v ∈ T o := by
    rw [mk2 v hv hTv]
    exact ⟨fun q => q.elim (fun q => absurd q (nm1 v (by omega))) id, Or.inr⟩
  refine ⟨1, _, hU, ?_⟩
  by_cases q : 100 + v ∈ T o
  · rw [if_pos q]
    refine Or.inl ⟨3, A2, s + 1, 1, rfl, by omega, o2, st2, by omega, by omega, fun F x hx hF => ?_⟩
    cases F with
    | zero => omega
    | succ F =>
      show mX4_match_b11 (mX4_match_L11 F) A (nI (top + 1)) (nI x) = _
      rw [hb11 _ x (by omega)]
      exact (match_145 e1 e2 (by omega) (by omega) hvo k5 (by omega)).1 (hmk.mpr q)
  · rw [if_neg q]
    have hsT := sT_gvV hT2 hv hv2 k4 hTv ho k5 hvo q
    have g3 : sG (gvA A2 v o) u = sG A u + 1 := by rw [sG_gv hv (by rw [k4, Ne, neq (by omega) (by omega)]; omega), g2]
    refine Or.inr ⟨_, gvA A2 v o, _, s + 1, 1, rfl, off4_tr o2 off4_gv, stI_off st2 (gvA_else (by omega) (by omega)) (funext fun _ => gvA_else (by omega) (by omega)), by omega, hsT, by omega, fun j hj => ⟨?_, ?_⟩, fun n hn => ?_, fun F x hx => ?_⟩
    · rw [gvA_else (by omega) (by omega), fr2 _ _ (by omega) (by omega), fr1 _ _ (by omega)]
    · rw [gvA_else (by omega) (by omega), fr2 _ _ (by omega) (by omega), fr1 _ _ (by omega)]
    · by_cases e : n = v
      · subst e; exact Or.inr ⟨by rw [gvA_130, if_pos rfl], Or.inl h4⟩
      · exact Or.inl ⟨by rw [gvA_130, if_neg e, s2.2.1], by rw [gvA_131, if_neg e, s2.2.2.1]⟩
    · show mX4_match_b11 (mX4_match_L11 F) A (nI (top + 1)) (nI x) = _
      rw [hb11 _ x (by omega)]
      exact (match_145 e1 e2 (by omega) (by omega) hvo k5 (by omega)).2 (fun z => q (hmk.mp z))
theorem match_S {u f : Nat} (ih : MP u f) : MP u (f + 1) := by
  intro A T ch s top a b d h hs hsb ha hb hau hbu hda hdb hf htop
  have hu := h.2.2.1
  have hsg : sG A u ≤ u := sG_le
  have hTy := sT_Ty h
  obtain ⟨m, hm, ra, hTm, hm5⟩ := resolve_ok h hau
  obtain ⟨n, hn, rb, hTn, hn5⟩ := resolve_ok h hbu
  by_cases e : m = n
  · subst e
    refine ⟨1, .inr [], by rw [← hTm, hTn]; exact U_refl _, Or.inr ⟨[], A, ch, s, 1, rfl, off4_rfl, hs, by omega, h, by omega, fun j hj => ⟨rfl, rfl⟩, fun n hn => Or.inl ⟨rfl, rfl⟩, fun F x hx => ?_⟩⟩
    exact match_eq (K := mX4_match_L11 F) (by omega) (by omega) ha hb (by omega) ra rb
  · by_cases m4 : A 130 m = nI 4
    · have hTv : T m = [100 + m] ∧ 2 ≤ m := by
        rcases sN_kind (h.2.2.2.1 m hm) hm5 with ⟨h2, hk, hT⟩ | ⟨h2, hk, hT⟩ | ⟨h2, c, i, j, hc, hi, hj, hk, hl, hr, hT⟩
        · rw [hk, neq (by omega) (by omega)] at m4; omega
        · exact ⟨hT, h2⟩
        · rw [hk, neq (by omega) (by omega)] at m4; omega
      refine match_var h hs hsb hm hn e hTv.2 m4 hTv.1 hn5 ?_ fun K x hx => match_varl hx (by omega) ha hb (by omega) ra rb (by omega) (by omega) e m4
      rw [← hTm, ← hTn, hTv.1]
      exact U_varl (by omega) (nvar_ne h hn hn5 e) (Ty_ne (hTy n hn))
    · obtain ⟨x, r, hx4, hkx, hTx, hxlow, hxp⟩ := nv_head h hm hm5 m4
      by_cases n4 : A 130 n = nI 4
      · have hTv : T n = [100 + n] ∧ 2 ≤ n := by
          rcases sN_kind (h.2.2.2.1 n hn) hn5 with ⟨h2, hk, hT⟩ | ⟨h2, hk, hT⟩ | ⟨h2, c, i, j, hc, hi, hj, hk, hl, hr, hT⟩
          · rw [hk, neq (by omega) (by omega)] at n4; omega
          · exact ⟨hT, h2⟩
          · rw [hk, neq (by omega) (by omega)] at n4; omega
        refine match_var h hs hsb hn hm (fun q => e q.symm) hTv.2 n4 hTv.1 hm5 ?_ fun K x hx => match_varr hx (by omega) ha hb (by omega) ra rb (by omega) (by omega) e hkx (by omega) (by omega) n4
        rw [← hTm, ← hTn, hTv.1, hTx]
        exact U_varr (by omega) (by omega)
      · obtain ⟨y, r', hy4, hky, hTy', hylow, hyp⟩ := nv_head h hn hn5 n4
        by_cases exy : x = y
        · subst exy
          by_cases x2 : x < 2
          · exact absurd ((hxlow x2).trans (hylow x2).symm) e
          · obtain ⟨hm2, hxx, i, j, hi, hj, hmi, hmj, hTp⟩ := hxp (by omega)
            obtain ⟨hn2, -, k, l, hk, hl, hnk, hnl, hTq⟩ := hyp (by omega)
            have hx10 : x < 10 := by omega
            obtain ⟨A1, hA1⟩ : ∃ A1, A1 = ppA (ppA (ppA A top ((-1) - nI m) (nI n)) (top + 1) (nI j) (nI l)) (top + 2) (nI i) (nI k) := ⟨_, rfl⟩
            have s1 : sameS A A1 := by rw [hA1]; exact sameS_tr sameS_pp (sameS_tr sameS_pp sameS_pp)
            have o1 : off4 A A1 := by rw [hA1]; exact off4_tr off4_pp (off4_tr off4_pp off4_pp)
            have st1 : stI A1 s := by rw [hA1]; exact stI_off hs (by rw [ppA_else (by omega) (by omega), ppA_else (by omega) (by omega), ppA_else (by omega) (by omega)]) (by rw [ppA_cell (by omega) (by omega), ppA_cell (by omega) (by omega), ppA_cell (by omega) (by omega)])
            have c2 : A1 135 (top + 2) = nI i ∧ A1 136 (top + 2) = nI k := by rw [hA1, ppA_135, ppA_136, if_pos rfl, if_pos rfl]; exact ⟨rfl, rfl⟩
            have c1 : A1 135 (top + 1) = nI j ∧ A1 136 (top + 1) = nI l := by rw [hA1, ppA_135, ppA_136, if_neg (by omega), if_neg (by omega), ppA_135, ppA_136, if_pos rfl, if_pos rfl]; exact ⟨rfl, rfl⟩
            have c0 : A1 135 top = (-1) - nI m ∧ A1 136 top = nI n := by rw [hA1, ppA_135, ppA_136, if_neg (by omega), if_neg (by omega), ppA_135, ppA_136, if_neg (by omega), if_neg (by omega), ppA_135, ppA_136, if_pos rfl, if_pos rfl]; exact ⟨rfl, rfl⟩
            have cl : ∀ q, q < top → A1 135 q = A 135 q ∧ A1 136 q = A 136 q := fun q hq => by rw [hA1, ppA_135, ppA_136, if_neg (by omega), if_neg (by omega), ppA_135, ppA_136, if_neg (by omega), if_neg (by omega), ppA_135, ppA_136, if_neg (by omega), if_neg (by omega)]; exact ⟨rfl, rfl⟩
            have g1 : sG A1 u = sG A u := sG_same s1
            have hTa : T a = T m := hTm.symm
            have hTb : T b = T n := hTn.symm
            have first : ∀ (F x : Nat), x < 1000000 → mX4_match_L11 (F + 1) A (nI (top + 1)) (nI x) = mX4_match_L11 F A1 (nI (top + 2 + 1)) (nI (x + 1)) := fun F x hx => by
              rw [hA1]
              exact match_pair (K := mX4_match_L11 F) hx (by omega) ha hb (by omega) ra rb (by omega) (by omega) e hkx hky (by omega) (by omega) hmi hmj hnk hnl
            obtain ⟨ga, res1, hU1, hres1⟩ := ih A1 T ch s (top + 2) i k (d + 1) (sT_same s1 h) st1 (by omega) c2.1 c2.2 hi hk (abv_down (x := [x]) hda hm hTa (by simp) (by rw [hTp]; rfl)) (abv_down (x := [x]) hdb hn hTb (by simp) (by rw [hTq]; rfl)) (by omega) (by omega)
            rcases hres1 with ⟨z, A', s', k1, rfl, hz, o', st', hs', hk1, lp⟩ | ⟨bs1, A2, ch2, s2, k1, rfl, o2, st2, hs2, hT2, hk1, cl2, gr2, lp1⟩
            · refine ⟨ga + 1, .inl z, by rw [hTa, hTb, hTp, hTq]; exact U_pair1 hx10 (hTy i hi) (hTy k hk) hU1, Or.inl ⟨z, A', s', k1 + 1, rfl, hz, off4_tr o1 o', st', by omega, by omega, fun F x hx hF => ?_⟩⟩
              cases F with
              | zero => omega
              | succ F => rw [first F x (by omega)]; exact lp F (x + 1) (by omega) (by omega)
            · have ok1 : okB bs1 := U_okB ga (hTy i hi) (hTy k hk) hU1
              have T2m : apL bs1 (T m) = x :: (apL bs1 (T i) ++ apL bs1 (T j)) := by rw [hTp, apL_cons ok1 hx10, apL_app2]
              have T2n : apL bs1 (T n) = x :: (apL bs1 (T k) ++ apL bs1 (T l)) := by rw [hTq, apL_cons ok1 hx10, apL_app2]
              have same1 : apL bs1 (T i) = apL bs1 (T k) := U_same ga (hTy i hi) (hTy k hk) hU1
              obtain ⟨gb, res2, hU2, hres2⟩ := ih A2 (fun n => apL bs1 (T n)) ch2 s2 (top + 1) j l (d + 1) hT2 st2 (by omega) (by rw [(cl2 (top + 1) (by omega)).1]; exact c1.1) (by rw [(cl2 (top + 1) (by omega)).2]; exact c1.2) hj hl
                (abv_down (x := x :: apL bs1 (T i)) (y := []) (m := m) (abv_ap ok1 hda) hm (by rw [hTa]) (by simp) (by rw [T2m]; simp))
                (abv_down (x := x :: apL bs1 (T k)) (y := []) (m := n) (abv_ap ok1 hdb) hn (by rw [hTb]) (by simp) (by rw [T2n]; simp)) (by omega) (by omega)
              rcases hres2 with ⟨z, A', s', k2, rfl, hz, o', st', hs', hk2, lp⟩ | ⟨bs2, A3, ch3, s3, k2, rfl, o3, st3, hs3, hT3, hk2, cl3, gr3, lp2⟩
              · obtain ⟨g, hU⟩ := U_pairF (a1 := T i) (a2 := T j) (b1 := T k) (b2 := T l) hx10 (hTy i hi) (hTy k hk) hU1 hU2
                refine ⟨g, .inl z, by rw [hTa, hTb, hTp, hTq]; exact hU, Or.inl ⟨z, A', s', k2 + k1 + 1, rfl, hz, off4_tr o1 (off4_tr o2 o'), st', by omega, by omega, fun F x hx hF => ?_⟩⟩
                obtain ⟨F', rfl⟩ : ∃ F', F = F' + k1 + 1 := ⟨F - k1 - 1, by omega⟩
                rw [first _ x (by omega), lp1 _ (x + 1) (by omega)]
                exact lp F' (x + 1 + k1) (by omega) (by omega)
              · obtain ⟨g, hU⟩ := U_pairS (a1 := T i) (a2 := T j) (b1 := T k) (b2 := T l) hx10 (hTy i hi) (hTy k hk) hU1 hU2
                have ok2 : okB bs2 := U_okB gb (apL_Ty ok1 (hTy j hj)) (apL_Ty ok1 (hTy l hl)) hU2
                have same2 : apL bs2 (apL bs1 (T j)) = apL bs2 (apL bs1 (T l)) := U_same gb (apL_Ty ok1 (hTy j hj)) (apL_Ty ok1 (hTy l hl)) hU2
                have T3m : apL bs2 (apL bs1 (T m)) = x :: (apL bs2 (apL bs1 (T i)) ++ apL bs2 (apL bs1 (T j))) := by rw [T2m, apL_cons ok2 hx10, apL_app2]
                have T3n : apL bs2 (apL bs1 (T n)) = x :: (apL bs2 (apL bs1 (T k)) ++ apL bs2 (apL bs1 (T l))) := by rw [T2n, apL_cons ok2 hx10, apL_app2]
                have eqT3 : apL bs2 (apL bs1 (T m)) = apL bs2 (apL bs1 (T n)) := by rw [T3m, T3n, same1, same2]
                have x5 : (nI x : Int32) ≠ nI 5 := by rw [Ne, neq (by omega) (by omega)]; omega
                have x4 : (nI x : Int32) ≠ nI 4 := by rw [Ne, neq (by omega) (by omega)]; omega
                have km2 : A2 130 m = nI x := by
                  have k0 : A1 130 m = nI x := by rw [s1.2.1]; exact hkx
                  rcases gr2 m hm with q | ⟨-, q | q⟩
                  · rw [q.1, k0]
                  · rw [k0] at q; exact absurd q x4
                  · have := inf_len q; rw [T2m] at this; simp only [List.length_cons, List.length_append] at this; omega
                have kn2 : A2 130 n = nI x := by
                  have k0 : A1 130 n = nI x := by rw [s1.2.1]; exact hky
                  rcases gr2 n hn with q | ⟨-, q | q⟩
                  · rw [q.1, k0]
                  · rw [k0] at q; exact absurd q x4
                  · have := inf_len q; rw [T2n, same1] at this; simp only [List.length_cons, List.length_append] at this; omega
                have km3 : A3 130 m = nI x := by
                  rcases gr3 m hm with q | ⟨-, q | q⟩
                  · rw [q.1, km2]
                  · rw [km2] at q; exact absurd q x4
                  · have := inf_len q; dsimp only at this; rw [T3m] at this; simp only [List.length_cons, List.length_append] at this; omega
                have kn3 : A3 130 n = nI x := by
                  rcases gr3 n hn with q | ⟨-, q | q⟩
                  · rw [q.1, kn2]
                  · rw [kn2] at q; exact absurd q x4
                  · have := inf_len q; dsimp only at this; rw [T3n, same2] at this; simp only [List.length_cons, List.length_append] at this; omega
                have hT4 := sT_gvP hT3 hm km3 hxx hm2 hn (by rw [kn3]; exact x5) e eqT3
                have g4 : sG (gvA A3 m n) u = sG A3 u + 1 := sG_gv hm (by rw [km3]; exact x5)
                have c03 : A3 135 top = (-1) - nI m ∧ A3 136 top = nI n := by
                  rw [(cl3 top (by omega)).1, (cl3 top (by omega)).2, (cl2 top (by omega)).1, (cl2 top (by omega)).2]; exact c0
                have comp : (fun n => apL (bs1 ++ bs2) (T n)) = fun n => apL bs2 (apL bs1 (T n)) := funext fun n => apL_comp
                refine ⟨g, .inr (bs1 ++ bs2), by rw [hTa, hTb, hTp, hTq]; exact hU, Or.inr ⟨bs1 ++ bs2, gvA A3 m n, _, s3, 1 + k2 + k1 + 1, rfl, off4_tr o1 (off4_tr o2 (off4_tr o3 off4_gv)), stI_off st3 (gvA_else (by omega) (by omega)) (funext fun _ => gvA_else (by omega) (by omega)), by omega, by rw [comp]; exact hT4, by omega, fun q hq => ?_, fun w hw => ?_, fun F x hx => ?_⟩⟩
                · rw [gvA_else (by omega) (by omega), gvA_else (by omega) (by omega), (cl3 q (by omega)).1, (cl3 q (by omega)).2, (cl2 q (by omega)).1, (cl2 q (by omega)).2]; exact cl q hq
                · rw [apL_comp, apL_comp, hTa]
                  by_cases ew : w = m
                  · subst ew; exact Or.inr ⟨by rw [gvA_130, if_pos rfl], Or.inr (inf_refl _)⟩
                  · rw [gvA_130, gvA_131, if_neg ew, if_neg ew]
                    have via1 : (A1 130 w = nI 4 ∨ inf (apL bs1 (T w)) (apL bs1 (T i))) → A 130 w = nI 4 ∨ inf (apL bs2 (apL bs1 (T w))) (apL bs2 (apL bs1 (T m))) := fun q => by
                      rcases q with q | q
                      · rw [s1.2.1] at q; exact Or.inl q
                      · exact Or.inr (inf_tr (inf_ap q) (by rw [T3m]; exact inf_l))
                    rcases gr2 w hw with q | ⟨q5, q⟩
                    · rcases gr3 w hw with p | ⟨p5, p⟩
                      · exact Or.inl ⟨by rw [p.1, q.1, s1.2.1], by rw [p.2, q.2, s1.2.2.1]⟩
                      · refine Or.inr ⟨p5, ?_⟩
                        rcases p with p | p
                        · rw [q.1, s1.2.1] at p; exact Or.inl p
                        · exact Or.inr (inf_tr p (by rw [T3m]; exact inf_r))
                    · rcases gr3 w hw with p | ⟨p5, p⟩
                      · exact Or.inr ⟨by rw [p.1, q5], via1 q⟩
                      · exact Or.inr ⟨p5, via1 q⟩
                · rw [show F + (1 + k2 + k1 + 1) = (F + 1 + k2 + k1) + 1 by omega, first _ x (by omega), lp1 _ (x + 1) (by omega), lp2 _ (x + 1 + k1) (by omega)]
                  rw [show x + (1 + k2 + k1 + 1) = x + 1 + k1 + k2 + 1 by omega]
                  exact match_give (K := mX4_match_L11 F) (by omega) (by omega) c03.1 c03.2 (by omega) (by omega) e (by rw [kn3]; exact x5)
        · refine ⟨1, .inl 2, ?_, Or.inl ⟨2, A, s, 1, rfl, by omega, off4_rfl, hs, by omega, by omega, fun F x hx hF => ?_⟩⟩
          · rw [← hTm, ← hTn, hTx, hTy']; exact U_kind (by omega) (by omega) exy
          · cases F with
            | zero => omega
            | succ F => exact match_kind (K := mX4_match_L11 F) (by omega) (by omega) ha hb (by omega) ra rb (by omega) (by omega) e hkx hky (fun q => m4 (by rw [hkx, q])) (fun q => n4 (by rw [hky, q])) exy (by omega) (by omega)
theorem match_all {u : Nat} : ∀ f, MP u f
  | 0 => match_0
  | f + 1 => match_S (match_all f)
/-- two types made the same -/
theorem match_ok {A : gM} {u : Nat} {T : Nat → Rw} {ch : Nat → Nat} {s a b : Nat} (h : sT A u T ch) (hs : stI A s) (hsb : s ≤ 1999990000) (ha : a < u) (hb : b < u) :
    ∃ g res, U g (T a) (T b) = some res ∧
      ((∃ n A' s', res = .inl n ∧ n ≤ 3 ∧ off4 A A' ∧ stI A' s' ∧ s' ≤ s + 2601 ∧ mX4_match A (nI a) (nI b) = some (A', nI n)) ∨
       (∃ bs A' ch' s', res = .inr bs ∧ off4 A A' ∧ stI A' s' ∧ s' ≤ s + 2601 ∧ sT A' u (fun n => apL bs (T n)) ch' ∧ (∀ n, n < u → (A' 130 n = A 130 n ∧ A' 131 n = A 131 n) ∨ A' 130 n = nI 5) ∧ mX4_match A (nI a) (nI b) = some (A', 0))) := by
  have hu := h.2.2.1
  have e0 : mX4_match A (nI a) (nI b) = mX4_match_L11 gF (ppA A 0 (nI a) (nI b)) (nI (0 + 1)) (nI 0) := by
    unfold mX4_match mX4_match_b0
    rw [show (0 : Int32) = nI 0 from nI0.symm, putPair_k (by omega)]
    exact obe
  have hsT := sT_same (sameS_pp (t := 0) (v := nI a) (w := nI b)) h
  have hG : sG (ppA A 0 (nI a) (nI b)) u = sG A u := sG_same sameS_pp
  obtain ⟨g, res, hU, hr⟩ := match_all (u := u) (u + 1) (ppA A 0 (nI a) (nI b)) T ch s 0 a b 0 hsT (stI_off hs (ppA_else (by omega) (by omega)) (ppA_cell (by omega) (by omega))) (by omega) (by rw [ppA_135, if_pos rfl]) (by rw [ppA_136, if_pos rfl]) ha hb abv_0 abv_0 (by omega) (by omega)
  refine ⟨g, res, hU, ?_⟩
  rcases hr with ⟨n, A', s', k, e, hn, o, st, h1, h2, lp⟩ | ⟨bs, A', ch', s', k, e, o, st, h1, h2, h3, -, gr, lp⟩
  · exact Or.inl ⟨n, A', s', e, hn, off4_tr off4_pp o, st, by omega, by rw [e0]; exact lp gF 0 (by omega) (by unfold gF; omega)⟩
  · have hg2 : sG A' u ≤ u := sG_le
    refine Or.inr ⟨bs, A', ch', s', e, off4_tr off4_pp o, st, by omega, h2, fun n hn => ?_, ?_⟩
    · rcases gr n hn with q | q
      · rw [ppA_else (by omega) (by omega), ppA_else (by omega) (by omega)] at q; exact Or.inl q
      · exact Or.inr q.1
    · obtain ⟨F, hF⟩ : ∃ F, gF = F + 1 + k := ⟨gF - k - 1, by have : gF = 1000002 := rfl; omega⟩
      rw [e0, hF, lp (F + 1) 0 (by omega)]
      show mX4_match_b11 (mX4_match_L11 F) A' (nI 0) (nI (0 + k)) = _
      unfold mX4_match_b11 mX4_match_b261
      rw [if_pos (by decide)]
