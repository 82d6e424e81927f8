/-! STEPS, WITH WHAT THEY COST -/
def offC (ar : Nat) (Ac Ac' : gM) : Prop := ∀ a x, (a < 128 ∨ 183 ≤ a ∨ (141 ≤ a ∧ a < 141 + ar) ∨ ((a = 139 ∨ a = 181) ∧ x < ar)) → Ac' a x = Ac a x
def offR (ar : Nat) (Ar Ar' : gM) : Prop := ∀ a x, (a < 183 ∨ a = 184 ∨ 192 ≤ a ∨ (a = 183 ∧ x ≠ 3 ∧ x ≠ 9 ∧ x ≠ 12 ∧ x ≠ 13) ∨ ((a = 190 ∨ a = 191) ∧ x < ar)) → Ar' a x = Ar a x
theorem offC_tr {ar : Nat} {A B C : gM} (h1 : offC ar A B) (h2 : offC ar B C) : offC ar A C := fun a x q => (h2 a x q).trans (h1 a x q)
theorem offR_tr {ar : Nat} {A B C : gM} (h1 : offR ar A B) (h2 : offR ar B C) : offR ar A C := fun a x q => (h2 a x q).trans (h1 a x q)
theorem offC_le {ar ar' : Nat} {A B : gM} (hl : ar ≤ ar') (h : offC ar' A B) : offC ar A B := fun a x q => h a x (by omega)
theorem offR_le {ar ar' : Nat} {A B : gM} (hl : ar ≤ ar') (h : offR ar' A B) : offR ar A B := fun a x q => h a x (by omega)
theorem offC_4 {ar : Nat} {A B : gM} (har : ar ≤ 40) (h : off4 A B) : offC ar A B := fun a x q => h a x (by omega) (by omega) (by omega) (by omega) (by omega) (by omega) (by omega)
theorem offR_J {ar : Nat} {A B : gM} (h : offJ A B) : offR ar A B := fun a x q => h.1 a x (by omega) (by omega) (by omega)
def Prog (Ac : gM) (uc : Nat) (Tc : Nat → Rw) (sc : Nat) (Ar : gM) (cp b ur : Nat) (Tr : Nat → Rw) (ρ : Nat → Nat) (V W : Nat → Prop) (ar : Nat) (env : Nat → Rw) (om : Nat → Nat → Nat) (tn : Nat → Nat) (ze zl zt : Nat) (Ac1 : gM) (uc1 : Nat) (Tc1 : Nat → Rw) (sc1 : Nat) (Ar1 : gM) (cp1 ur1 : Nat) (Tr1 : Nat → Rw) (ρ1 : Nat → Nat) (V1 W1 : Nat → Prop) (k n du dr dp ds : Nat) : Prop :=
  Sim Ac1 uc1 Tc1 sc1 Ar1 cp1 b ur1 Tr1 ρ1 V1 W1 ar env om tn ze zl zt ∧ (∀ x, W1 x ↔ V1 x ∧ (V x → W x)) ∧ Adv uc Tc ur Tr ρ V W Ar uc1 Tc1 ur1 Tr1 ρ1 V1 Ar1 ∧ cost cp cp1 k n ∧ offC ar Ac Ac1 ∧ offR (ar + ze) Ar Ar1 ∧ 3 * uc1 ≤ 3 * uc + du ∧ 3 * ur1 ≤ 3 * ur + dr ∧ 3 * (prs Ar1 b ur1).length ≤ 3 * (prs Ar b ur).length + dp ∧ sc1 ≤ sc + ds ∧ Ar1 183 12 = Ar 183 12 ∧ Ar1 183 13 = Ar 183 13
def RowR (uc : Nat) (Tc : Nat → Rw) (b ur : Nat) (Tr : Nat → Rw) (ρ : Nat → Nat) (W : Nat → Prop) (rc rr : Nat) : Prop := rc < uc ∧ (b ≤ rr ∧ rr < ur) ∧ rn ρ (Tc rc) = Tr rr ∧ ∀ x ∈ Tc rc, lowV W x
section PG
variable {Ac : gM} {uc : Nat} {Tc : Nat → Rw} {sc : Nat} {Ar : gM} {cp ur : Nat} {Tr : Nat → Rw} {ρ : Nat → Nat} {V W : Nat → Prop} {Ac1 : gM} {uc1 : Nat} {Tc1 : Nat → Rw} {sc1 : Nat} {Ar1 : gM} {cp1 ur1 : Nat} {Tr1 : Nat → Rw} {ρ1 : Nat → Nat} {V1 W1 : Nat → Prop} {Ac2 : gM} {uc2 : Nat} {Tc2 : Nat → Rw} {sc2 : Nat} {Ar2 : gM} {cp2 ur2 : Nat} {Tr2 : Nat → Rw} {ρ2 : Nat → Nat} {V2 W2 : Nat → Prop} {b ar : Nat} {env : Nat → Rw} {om : Nat → Nat → Nat} {tn : Nat → Nat} {ze zl zt : Nat}
theorem Sim.low (h : Sim Ac uc Tc sc Ar cp b ur Tr ρ V W ar env om tn ze zl zt) : ∀ c, c < 10 → ρ c = c := h.2.2.2.1.1.low
theorem Prog_tr {k n du dr dp ds k' n' du' dr' dp' ds' : Nat} (h : Prog Ac uc Tc sc Ar cp b ur Tr ρ V W ar env om tn ze zl zt Ac1 uc1 Tc1 sc1 Ar1 cp1 ur1 Tr1 ρ1 V1 W1 k n du dr dp ds) (h' : Prog Ac1 uc1 Tc1 sc1 Ar1 cp1 b ur1 Tr1 ρ1 V1 W1 ar env om tn ze zl zt Ac2 uc2 Tc2 sc2 Ar2 cp2 ur2 Tr2 ρ2 V2 W2 k' n' du' dr' dp' ds') : Prog Ac uc Tc sc Ar cp b ur Tr ρ V W ar env om tn ze zl zt Ac2 uc2 Tc2 sc2 Ar2 cp2 ur2 Tr2 ρ2 V2 W2 (k + k') (n + n') (du + du') (dr + dr') (dp + dp') (ds + ds') := by
  obtain ⟨a1, a2, a3, a4, a5, a6, a7, a8, a9, a10, a11, a12⟩ := h
  obtain ⟨b1, b2, b3, b4, b5, b6, b7, b8, b9, b10, b11, b12⟩ := h'
  refine ⟨b1, fun x => ?_, Adv_tr a2 a1.low b1.low a3 b3, cost_tr a4 b4, offC_tr a5 b5, offR_tr a6 b6, by omega, by omega, by omega, by omega, by rw [b11, a11], by rw [b12, a12]⟩
  rw [b2 x]
  constructor
  · rintro ⟨q1, q2⟩
    exact ⟨q1, fun q => ((a2 x).mp (q2 (a3.2.2.1 x q).1)).2 q⟩
  · rintro ⟨q1, q2⟩
    exact ⟨q1, fun q => (a2 x).mpr ⟨q, q2⟩⟩
theorem Prog_le {k n du dr dp ds du' dr' dp' ds' : Nat} (h : Prog Ac uc Tc sc Ar cp b ur Tr ρ V W ar env om tn ze zl zt Ac1 uc1 Tc1 sc1 Ar1 cp1 ur1 Tr1 ρ1 V1 W1 k n du dr dp ds) (h1 : du ≤ du') (h2 : dr ≤ dr') (h3 : dp ≤ dp') (h4 : ds ≤ ds') : Prog Ac uc Tc sc Ar cp b ur Tr ρ V W ar env om tn ze zl zt Ac1 uc1 Tc1 sc1 Ar1 cp1 ur1 Tr1 ρ1 V1 W1 k n du' dr' dp' ds' := by
  obtain ⟨a1, a2, a3, a4, a5, a6, a7, a8, a9, a10, a11, a12⟩ := h
  exact ⟨a1, a2, a3, a4, a5, a6, by omega, by omega, by omega, by omega, a11, a12⟩
theorem Row_prog {k n du dr dp ds rc rr : Nat} (hl : ∀ c, c < 10 → ρ c = c) (hWV : ∀ x, W x → V x) (h : Prog Ac uc Tc sc Ar cp b ur Tr ρ V W ar env om tn ze zl zt Ac1 uc1 Tc1 sc1 Ar1 cp1 ur1 Tr1 ρ1 V1 W1 k n du dr dp ds) (r : RowR uc Tc b ur Tr ρ W rc rr) : RowR uc1 Tc1 b ur1 Tr1 ρ1 W1 rc rr := by
  obtain ⟨a1, a2, a3, -⟩ := h
  obtain ⟨r1, r2, r3, r4⟩ := r
  have := Adv_row hl a1.low a3 r1 r2.2 (fun x hx => (r4 x hx).imp id (hWV x)) r3
  exact ⟨by have := a3.1; omega, ⟨r2.1, by have := a3.2.1; omega⟩, this.1, fun x hx => (this.2.2 r4 x hx).imp id (a2 x).mpr⟩
/-- a new variable on both sides -/
theorem both_var {N : Nat} (h : Sim Ac uc Tc sc Ar cp b ur Tr ρ V W ar env om tn ze zl zt) (huc : uc < 2600) (hur : ur < 8000) : ∃ Ac1 Tc1 Ar1 cp1 Tr1 ρ1 V1 W1 k n, mX4_newVariable Ac = some (Ac1, nI uc) ∧ mX6_variable N cp Ar = some (Ar1, (cp1, k, n), nI ur) ∧ Prog Ac uc Tc sc Ar cp b ur Tr ρ V W ar env om tn ze zl zt Ac1 (uc + 1) Tc1 sc Ar1 cp1 (ur + 1) Tr1 ρ1 V1 W1 k n 3 3 0 0 ∧ RowR (uc + 1) Tc1 b (ur + 1) Tr1 ρ1 W1 uc ur ∧ (∀ m, m < uc → Tc1 m = Tc m) ∧ (∀ m, m < ur → Tr1 m = Tr m) ∧ Tc1 uc = [100 + uc] ∧ Tr1 ur = [10 + ur] ∧ ¬ V (100 + uc) := by
  obtain ⟨⟨chc, s1⟩, s2, ⟨chr, s3⟩, s4, s5, s6, s7, s8⟩ := id h
  obtain ⟨c1, c2⟩ := newVariable_ok s1 huc
  obtain ⟨Ar1, cp1, k, n, r1, r2, r3, r4, r5, r6, r7, r8⟩ := variable_ok (N := N) s3 hur
  have e188 : ∀ m, m < ur → Ar1 188 m = Ar 188 m := fun m hm => r4 188 m (by omega) (by omega)
  have nV : ¬ V (100 + uc) := fun q => by have := s4.2 _ q; omega
  have adv : Adv uc Tc ur Tr ρ V W Ar (uc + 1) (at1 Tc uc [100 + uc]) (ur + 1) (at1 Tr ur [10 + ur]) (at1 ρ (100 + uc) (10 + ur)) (fun z => V z ∨ z = 100 + uc) Ar1 := Adv_var (by omega) (by omega) (fun m hm => at1_n (by omega)) (fun m hm => at1_n (by omega)) e188 s5 (fun x hx => (s4.2 x hx).2.1) (Nat.le_refl _) (Nat.le_refl _)
  have rl := RLV_var s4 (uc' := uc + 1) (ur' := ur + 1) (by omega) (by omega) e188 (Nat.le_refl _) (by omega) (Nat.le_refl _) (by omega) (by rw [show 10 + ur - 10 = ur by omega]; exact r6)
  have mk : ∀ a x, (a < 129 ∨ 132 < a ∨ (a = 129 ∧ x ≠ 9)) → mkA Ac uc 4 (-1) (-1) a x = Ac a x := fun a x q => mkA_else q
  have sm := Sim_adv h adv ⟨_, c2⟩ (stI_off s2 (mk 129 10 (by omega)) (funext fun x => mk 133 x (by omega))) ⟨_, r3⟩ rl (mk 138 3 (by omega)) (r4 183 9 (by omega) (by omega)) (fun k hk => mk 139 k (by omega)) (fun k hk => mk 181 k (by omega)) (fun k hk => funext fun x => mk (141 + k) x (by omega)) (fun k hk => r4 190 k (by omega) (by omega)) (fun k hk => r4 191 k (by omega) (by omega))
  refine ⟨_, _, Ar1, cp1, _, _, _, _, k, n, c1, r1, ⟨sm, fun x => Iff.rfl, adv, r2, fun a x q => mk a x (by omega), fun a x q => r4 a x (by omega) (by omega), by omega, by omega, by omega, by omega, r4 183 12 (by omega) (by omega), r4 183 13 (by omega) (by omega)⟩, ⟨by omega, ⟨by have := s3.2.2.2; omega, by omega⟩, ?_, fun x hx => ?_⟩, fun m hm => at1_n (by omega), fun m hm => at1_n (by omega), at1_s, at1_s, nV⟩
  · rw [at1_s, at1_s, rn_one, at1_s]
  · rw [at1_s, List.mem_singleton] at hx
    subst hx
    exact Or.inr ⟨Or.inr rfl, fun q => absurd q nV⟩
/-- a new pair on both sides -/
theorem both_pair {N c i j i' j' : Nat} (h : Sim Ac uc Tc sc Ar cp b ur Tr ρ V W ar env om tn ze zl zt) (huc : uc < 2600) (hur : ur < 8000) (hc : c = 2 ∨ c = 3) (hi : RowR uc Tc b ur Tr ρ W i i') (hj : RowR uc Tc b ur Tr ρ W j j') : ∃ Ac1 Tc1 Ar1 cp1 Tr1 W1 k n, mX4_make Ac (nI c) (nI i) (nI j) = some (Ac1, nI uc) ∧ mX6_node N cp Ar (nI c) (nI i') (nI j') = some (Ar1, (cp1, k, n), nI ur) ∧ Prog Ac uc Tc sc Ar cp b ur Tr ρ V W ar env om tn ze zl zt Ac1 (uc + 1) Tc1 sc Ar1 cp1 (ur + 1) Tr1 ρ V W1 k n 3 3 3 0 ∧ RowR (uc + 1) Tc1 b (ur + 1) Tr1 ρ W1 uc ur ∧ (∀ m, m < uc → Tc1 m = Tc m) ∧ (∀ m, m < ur → Tr1 m = Tr m) ∧ Tc1 uc = c :: (Tc i ++ Tc j) := by
  obtain ⟨⟨chc, s1⟩, s2, ⟨chr, s3⟩, s4, s5, s6, s7, s8⟩ := id h
  obtain ⟨i1, i2, i3, i4⟩ := hi
  obtain ⟨j1, j2, j3, j4⟩ := hj
  obtain ⟨c1, c2⟩ := pair_ok s1 huc hc i1 j1
  obtain ⟨Ar1, cp1, k, n, r1, r2, r3, r4, r5, r6⟩ := pairN_ok (N := N) s3 hur hc i2 j2
  have e188 : ∀ m, m < ur → Ar1 188 m = Ar 188 m := fun m hm => r4 188 m (by omega) (by omega)
  have adv : Adv uc Tc ur Tr ρ V W Ar (uc + 1) (at1 Tc uc (c :: (Tc i ++ Tc j))) (ur + 1) (at1 Tr ur (c :: (Tr i' ++ Tr j'))) ρ V Ar1 := Adv_rfl (by omega) (by omega) (fun m hm => at1_n (by omega)) (fun m hm => at1_n (by omega)) e188 s5
  have rl := RLV_ext (uc' := uc + 1) (ur' := ur + 1) s4 (by omega) (by omega) e188
  have mk : ∀ a x, (a < 129 ∨ 132 < a ∨ (a = 129 ∧ x ≠ 9)) → mkA Ac uc (nI c) (nI i) (nI j) a x = Ac a x := fun a x q => mkA_else q
  have sm := Sim_adv h adv ⟨_, c2⟩ (stI_off s2 (mk 129 10 (by omega)) (funext fun x => mk 133 x (by omega))) ⟨_, r3⟩ rl (mk 138 3 (by omega)) (r4 183 9 (by omega) (by omega)) (fun k hk => mk 139 k (by omega)) (fun k hk => mk 181 k (by omega)) (fun k hk => funext fun x => mk (141 + k) x (by omega)) (fun k hk => r4 190 k (by omega) (by omega)) (fun k hk => r4 191 k (by omega) (by omega))
  refine ⟨_, _, Ar1, cp1, _, _, k, n, c1, r1, ⟨sm, fun x => Iff.rfl, adv, r2, fun a x q => mk a x (by omega), fun a x q => r4 a x (by omega) (by omega), by omega, by omega, by omega, by omega, r4 183 12 (by omega) (by omega), r4 183 13 (by omega) (by omega)⟩, ⟨by omega, ⟨by have := s3.2.2.2; omega, by omega⟩, ?_, fun x hx => ?_⟩, fun m hm => at1_n (by omega), fun m hm => at1_n (by omega), at1_s⟩
  · rw [at1_s, at1_s, rn_cons, rn_app, s4.1.low c (by omega), i3, j3]
  · rw [at1_s] at hx
    have w : ∀ x, lowV W x → lowV (fun x => V x ∧ (V x → W x)) x := fun x q => q.imp id fun z => ⟨s5 x z, fun _ => z⟩
    rcases List.mem_cons.mp hx with hx | hx
    · exact Or.inl (by omega)
    · rcases List.mem_append.mp hx with hx | hx
      · exact w x (i4 x hx)
      · exact w x (j4 x hx)
/-- a new plain type in the reference -/
theorem both_leaf {N c : Nat} (h : Sim Ac uc Tc sc Ar cp b ur Tr ρ V W ar env om tn ze zl zt) (hur : ur < 8000) (hc : c < 2) : ∃ Ar1 cp1 Tr1 W1 k n, mX6_node N cp Ar (nI c) (-1) (-1) = some (Ar1, (cp1, k, n), nI ur) ∧ Prog Ac uc Tc sc Ar cp b ur Tr ρ V W ar env om tn ze zl zt Ac uc Tc sc Ar1 cp1 (ur + 1) Tr1 ρ V W1 k n 0 3 0 0 ∧ RowR uc Tc b (ur + 1) Tr1 ρ W1 c ur ∧ Tc c = [c] := by
  obtain ⟨⟨chc, s1⟩, s2, ⟨chr, s3⟩, s4, s5, s6, s7, s8⟩ := id h
  obtain ⟨Ar1, cp1, k, n, r1, r2, r3, r4, r5, r6⟩ := leafN_ok (N := N) s3 hur hc
  have e188 : ∀ m, m < ur → Ar1 188 m = Ar 188 m := fun m hm => r4 188 m (by omega) (by omega)
  have adv : Adv uc Tc ur Tr ρ V W Ar uc Tc (ur + 1) (at1 Tr ur [c]) ρ V Ar1 := Adv_rfl (Nat.le_refl _) (by omega) (fun _ _ => rfl) (fun m hm => at1_n (by omega)) e188 s5
  have rl := RLV_ext (uc' := uc) (ur' := ur + 1) s4 (Nat.le_refl _) (by omega) e188
  have sm := Sim_adv h adv ⟨_, s1⟩ s2 ⟨_, r3⟩ rl rfl (r4 183 9 (by omega) (by omega)) (fun k hk => rfl) (fun k hk => rfl) (fun k hk => rfl) (fun k hk => r4 190 k (by omega) (by omega)) (fun k hk => r4 191 k (by omega) (by omega))
  have lit := sT_lit s1
  have hT : Tc c = [c] := by
    have : c = 0 ∨ c = 1 := by omega
    rcases this with rfl | rfl
    · exact lit.1
    · exact lit.2.1
  refine ⟨Ar1, cp1, _, _, k, n, r1, ⟨sm, fun x => Iff.rfl, adv, r2, fun _ _ _ => rfl, fun a x q => r4 a x (by omega) (by omega), by omega, by omega, by omega, by omega, r4 183 12 (by omega) (by omega), r4 183 13 (by omega) (by omega)⟩, ⟨by have := s1.2.1; omega, ⟨by have := s3.2.2.2; omega, by omega⟩, ?_, fun x hx => ?_⟩, hT⟩
  · rw [at1_s, hT, rn_one, s4.1.low c (by omega)]
  · rw [hT, List.mem_singleton] at hx; exact Or.inl (by omega)
/-- two types made the same, with what it costs -/
theorem both_match {a d a' d' : Nat} {part : Int32} (h : Sim Ac uc Tc sc Ar cp b ur Tr ρ V W ar env om tn ze zl zt) (ha : RowR uc Tc b ur Tr ρ W a a') (hd : RowR uc Tc b ur Tr ρ W d d') (hp : (prs Ar b ur).length + 1 < 1250) (hsb : sc ≤ 1999990000) :
    (∃ n Ac1 sc1 Ar1, 1 ≤ n ∧ n ≤ 3 ∧ mX4_match Ac (nI a) (nI d) = some (Ac1, nI n) ∧ mX6_join cp 1250 Ar (nI a') (nI d') part = some (Ar1, 0) ∧ offC ar Ac Ac1 ∧ stI Ac1 sc1 ∧ sc1 ≤ sc + 2601 ∧ offR (ar + ze) Ar Ar1 ∧ rO Ar1 cp ∧ Ar1 183 12 = nI n ∧ Ar1 183 13 = part) ∨
    (∃ Ac1 Tc1 sc1 Ar1 Tr1 W1, mX4_match Ac (nI a) (nI d) = some (Ac1, 0) ∧ mX6_join cp 1250 Ar (nI a') (nI d') part = some (Ar1, 1) ∧ Prog Ac uc Tc sc Ar cp b ur Tr ρ V W ar env om tn ze zl zt Ac1 uc Tc1 sc1 Ar1 cp ur Tr1 ρ V W1 0 0 0 0 0 2601) := by
  obtain ⟨⟨chc, s1⟩, s2, ⟨chr, s3⟩, s4, s5, s6, s7, s8⟩ := id h
  rcases both_join (part := part) (Pr := fun n => b ≤ n ∧ n < ur) (Sl := prs Ar b ur) h ha.1 hd.1 (fun n hn => hn) s3.2.1 ha.2.1 hd.2.1 ha.2.2.1 hd.2.2.1 ha.2.2.2 hd.2.2.2 hp hsb with ⟨n, Ac1, sc1, Ar1, n1, n3, m, j, o4, st, hs, oJ, f1, f2⟩ | ⟨Ac1, Tc1, sc1, Ar1, Tr1, m, j, o4, oJ, hs, sm, adv, f1, f2, pe, -⟩
  · exact Or.inl ⟨n, Ac1, sc1, Ar1, n1, n3, m, j, offC_4 s6.2.2 o4, st, hs, offR_J oJ, fun i hi => by rw [oJ.1 188 i (by omega) (by omega) (by omega)]; exact s3.1.2.2.2.2.1 i hi, f1, f2⟩
  · exact Or.inr ⟨Ac1, Tc1, sc1, Ar1, Tr1, W, m, j, sm, fun x => ⟨fun q => ⟨s5 x q, fun _ => q⟩, fun q => q.2 q.1⟩, adv, cost_rfl s3.1.2.1, offC_4 s6.2.2 o4, offR_J oJ, by omega, by omega, by rw [pe]; omega, hs, f1, f2⟩
end PG
