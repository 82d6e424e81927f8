/-! WHAT A PART'S TYPE BY ITSELF IS, IN ANY MEMORY OF THE REFERENCE -/
def foundAs (F : Nat → Nat → Int32) (p : Nat) (res : (Nat × Nat) ⊕ Rw) (ze N fr cp : Nat) (Ar : gM) (b ur : Nat) (Tr : Nat → Rw) : Prop :=
  ∃ Ar' cp' k n, cost cp cp' k n ∧ offR ze Ar Ar' ∧ rO Ar' cp' ∧
    ((∃ f q, res = .inl (f, q) ∧ mX6_found N fr cp Ar (nI p) = some (Ar', (cp', k, n), -1) ∧ Ar' 183 12 = nI f ∧ Ar' 183 13 = nI q) ∨
     (∃ r ur' Tr' chr' rr, res = .inr r ∧ mX6_found N fr cp Ar (nI p) = some (Ar', (cp', k, n), nI rr) ∧ rW Ar' cp' b ur' Tr' chr' ∧ ur ≤ ur' ∧ 3 * ur' ≤ 3 * ur + 7319 ∧ b ≤ rr ∧ rr < ur' ∧ num0 (Tr' rr) = r ∧ (Tr' rr).length ≤ 60 ∧ (∀ m, m < ur → Tr' m = Tr m) ∧ (∀ m, m < ur → Ar' 188 m = Ar 188 m) ∧ (∀ x ∈ Tr' rr, x < 10 ∨ (10 + ur ≤ x ∧ Ar' 188 (x - 10) = 0)) ∧ Ar' 183 12 = Ar 183 12 ∧ Ar' 183 13 = Ar 183 13 ∧ Ar' 183 9 = nI ze ∧ 3 * (prs Ar' b ur').length ≤ 3 * (prs Ar b ur).length + 3509))
/-- the same in any memory of the second program, with no name around, or with one that no part asks for -/
def Rs (F : Nat → Nat → Int32) (p : Nat) (res : (Nat × Nat) ⊕ Rw) : Prop := ∀ (ze zl zt N fr cp : Nat) (Ar : gM) (b ur : Nat) (Tr : Nat → Rw) (chr : Nat → Nat), p < fr → rW Ar cp b ur Tr chr → Ar 183 9 = nI ze → EX ze zl zt Ar b ur Tr id (fun _ => False) → (ze = 0 ∨ ∀ j, j < p + 1 → F j 0 = nI 2 → F j 4 ≠ nI zl) → PTr Ar (p + 1) F → 3 * ur + 7319 ≤ 23900 → (prs Ar b ur).length ≤ 70 → foundAs F p res ze N fr cp Ar b ur Tr
def resOK (res : (Nat × Nat) ⊕ Rw) : Prop := (∀ f q, res = .inl (f, q) → 1 ≤ f ∧ f ≤ 4 ∧ q ≤ 40) ∧ ∀ r, res = .inr r → Ty r ∧ r.length ≤ 60 ∧ ∀ c ∈ r, c < 4 ∨ (10 ≤ c ∧ c < 70)
theorem EX_0 {zl zt : Nat} {Ar : gM} {b ur : Nat} {Tr : Nat → Rw} {ρ : Nat → Nat} {V : Nat → Prop} : EX 0 zl zt Ar b ur Tr ρ V := ⟨by omega, fun j hj => by omega⟩
theorem Sim_0 {Ac : gM} {s : Nat} {Ar : gM} {cp b ur : Nat} {Tr : Nat → Rw} {chr : Nat → Nat} {env : Nat → Rw} {om : Nat → Nat → Nat} {tn : Nat → Nat} {ze zl zt : Nat} (h1 : sT Ac 2 (fun n => [n]) (fun _ => 0)) (h2 : stI Ac s) (h3 : Ac 138 3 = nI 0) (h4 : rW Ar cp b ur Tr chr) (h5 : Ar 183 9 = nI ze) (h6 : EX ze zl zt Ar b ur Tr id (fun _ => False)) : Sim Ac 2 (fun n => [n]) s Ar cp b ur Tr id (fun _ => False) (fun _ => False) 0 env om tn ze zl zt :=
  ⟨⟨_, h1⟩, h2, ⟨chr, h4⟩, ⟨⟨fun _ _ => rfl, fun _ h => h, fun _ _ _ _ e => e⟩, fun x hx => absurd hx id⟩, fun x hx => absurd hx id, ⟨h3, by rw [Nat.zero_add]; exact h5, by omega⟩, fun k hk => absurd hk (Nat.not_lt_zero k), h6⟩
theorem prs_0 {A : gM} {u : Nat} : (prs A u u).length = 0 := by
  have : prs A u u = [] := by
    unfold prs
    rw [List.filter_eq_nil_iff]
    intro n hn
    rw [List.mem_range] at hn
    simp only [decide_eq_true_eq]
    omega
  rw [this]; rfl
theorem num_ext {a b : Rw} (hl : a.length = b.length) (h : ∀ (i x y : Nat), a[i]? = some x → b[i]? = some y → x = y) : a = b := by
  refine List.ext_getElem? fun i => ?_
  by_cases q : i < a.length
  · have e1 : a[i]? = some a[i] := List.getElem?_eq_getElem q
    have e2 : b[i]? = some (b[i]'(by omega)) := List.getElem?_eq_getElem (by omega)
    rw [e1, e2, h i _ _ e1 e2]
  · rw [List.getElem?_eq_none (by omega), List.getElem?_eq_none (by omega)]
/-- what the class writes down is the numbered row -/
theorem write0 {A : gM} {u : Nat} {T : Nat → Rw} {ch : Nat → Nat} {n : Nat} (h : sT A u T ch) (hn : n < u) (hl : (T n).length ≤ 60) (hk : ∀ m, m < 2600 → ¬ mkd A m) : ∃ A', mX4_write A (nI n) = some (A', nI (num0 (T n)).length) ∧ offW A A' ∧ rowIn A' 182 (num0 (T n)) ∧ ∀ x ∈ num0 (T n), x ≤ 3000 := by
  have hu := h.2.2.1
  obtain ⟨A', e1, e2, e3⟩ := write_ok h hn
  have hnum : num (kp A) [] (T n) = num0 (T n) := num_cg _ _ fun c hc h10 => by
    rcases sT_code h n hn c hc with q | ⟨v, q1, q2, q3, -⟩
    · omega
    · subst q3
      have : ¬ kp A (100 + v) = true := fun z => hk v (by omega) (kp_v.mp z)
      cases hkk : kp A (100 + v) with
      | true => exact absurd hkk this
      | false => rfl
  rw [if_pos hl] at e1
  rw [hnum] at e3
  refine ⟨A', by rw [num0_len]; exact e1, e2, fun i c hi => (e3 hl i c hi).1, fun x hx => ?_⟩
  obtain ⟨i, hi⟩ := List.mem_iff_getElem?.mp hx
  exact (e3 hl i x hi).2
theorem num0_codes {r : Rw} (h : ∀ x ∈ r, x ≤ 3 ∨ 100 ≤ x) (hl : r.length ≤ 60) : ∀ c ∈ num0 r, c < 4 ∨ (10 ≤ c ∧ c < 70) := by
  intro c hc
  rcases num_codes r [] (fun x hx => by have := h x hx; omega) c hc with ⟨q1, q2⟩ | ⟨q1, q2, q3⟩ | ⟨q1, q2⟩
  · have := h c q2; omega
  · cases q2
  · have := seats_le (keep := fun _ => false) r []
    rw [List.length_nil] at this; omega
section ST2
variable {F : Nat → Nat → Int32} {sz : Nat → Nat} {p : Nat}
theorem find_run {Ac : gM} {s : Nat} (hp : p < 40) (hprt : ∀ j, j < p + 1 → prt F sz j) (hsz : sz p ≤ 60) (h1 : sT Ac 2 (fun n => [n]) (fun _ => 0)) (h2 : stI Ac s) (h3 : Ac 138 3 = nI 0) (pc : PTc Ac (p + 1) F) (hs : s + 360000 ≤ 1999990000) :
    ∃ res, Rs F p res ∧ resOK res ∧ ∃ Ac' s', s' ≤ s + 360000 ∧ stI Ac' s' ∧ offC 0 Ac Ac' ∧
      ((∃ f q, res = .inl (f, q) ∧ mX0_find 41 Ac (nI p) 0 = some (Ac', -1) ∧ Ac' 128 3 = nI f ∧ Ac' 128 4 = nI q) ∨
       (∃ r rc A7 Aw, res = .inr r ∧ rc ≤ 2600 ∧ mX0_find 41 Ac (nI p) 0 = some (Ac', nI rc) ∧ mX4_forgetMarks Ac' = some A7 ∧ mX4_write A7 (nI rc) = some (Aw, nI r.length) ∧ rowIn Aw 182 r ∧ stI Aw (s' + 1) ∧ offC 0 Ac' Aw)) := by
  have run := fun (ze zl zt N fr cp : Nat) (Ar : gM) (b ur : Nat) (Tr : Nat → Rw) (chr : Nat → Nat) (hfr : p < fr) (h4 : rW Ar cp b ur Tr chr) (h5 : Ar 183 9 = nI ze) (h6 : EX ze zl zt Ar b ur Tr id (fun _ => False)) (h7 : ∀ j, j < p + 1 → F j 0 = nI 2 → F j 4 ≠ nI zl) (pr : PTr Ar (p + 1) F) (hur : 3 * ur + 7319 ≤ 23900) (hpb : (prs Ar b ur).length ≤ 70) => find_ok (N := N) hprt h7 p 41 fr 0 (by omega) (by omega) hfr (by omega) (by omega) pc pr (Sim_0 (env := fun _ => []) (om := fun _ _ => 0) (tn := fun _ => 0) h1 h2 h3 h4 h5 h6) ⟨by omega, by omega, by omega, by omega⟩
  have lab10 : ∀ j, j < p + 1 → F j 0 = nI 2 → F j 4 ≠ nI 10 := fun j hj q z => by
    rcases hprt j hj with ⟨s, y1, y2, -⟩ | ⟨-, l, y1, y2, -⟩ | ⟨y, -⟩ | ⟨y, -⟩ | ⟨y, -⟩ | ⟨y, -⟩ | ⟨y, -⟩ | ⟨y, -⟩
    · rw [y2, neq (by omega) (by omega)] at q; omega
    · rw [y2, neq (by omega) (by omega)] at z; omega
    all_goals (rw [y, neq (by omega) (by omega)] at q; omega)
  have runz := fun (ze zl zt N fr cp : Nat) (Ar : gM) (b ur : Nat) (Tr : Nat → Rw) (chr : Nat → Nat) (hfr : p < fr) (h4 : rW Ar cp b ur Tr chr) (h5 : Ar 183 9 = nI ze) (h6 : EX ze zl zt Ar b ur Tr id (fun _ => False)) (h7 : ze = 0 ∨ ∀ j, j < p + 1 → F j 0 = nI 2 → F j 4 ≠ nI zl) (pr : PTr Ar (p + 1) F) (hur : 3 * ur + 7319 ≤ 23900) (hpb : (prs Ar b ur).length ≤ 70) => (show ∃ zl', EX ze zl' zt Ar b ur Tr id (fun _ => False) ∧ ∀ j, j < p + 1 → F j 0 = nI 2 → F j 4 ≠ nI zl' from by
    rcases h7 with z | z
    · subst z; exact ⟨10, EX_0, lab10⟩
    · exact ⟨zl, h6, z⟩)
  rw [nI0] at run
  -- a memory of the reference with just these parts
  obtain ⟨A0, hA0⟩ : ∃ A0 : gM, A0 = fun a x => if a = 184 then F (x / 6) (x % 6) else 0 := ⟨_, rfl⟩
  have z0 : ∀ a x, a ≠ 184 → A0 a x = 0 := fun a x q => by rw [hA0]; exact if_neg q
  have w0 : rW A0 500 0 0 (fun _ => []) (fun _ => 0) := ⟨⟨by rw [z0 _ _ (by omega)]; exact nI0.symm, Or.inl rfl, by omega, fun n hn => absurd hn (Nat.not_lt_zero n), fun i _ => Or.inl (z0 _ _ (by omega)), fun n hn => absurd hn (Nat.not_lt_zero n)⟩, fun n hn => absurd hn.2 (Nat.not_lt_zero n), fun n hn => absurd hn (Nat.not_lt_zero n), Nat.le_refl 0⟩
  have p0 : PTr A0 (p + 1) F := fun j _ w hw => by
    rw [hA0]
    show (if 184 = 184 then F ((6 * j + w) / 6) ((6 * j + w) % 6) else 0) = F j w
    rw [if_pos rfl, show (6 * j + w) / 6 = j by omega, show (6 * j + w) % 6 = w by omega]
  rcases run 0 10 0 0 45 500 A0 0 0 (fun _ => []) (fun _ => 0) (by omega) w0 ((z0 _ _ (by omega)).trans nI0.symm) EX_0 lab10 p0 (by omega) (by rw [prs_0]; omega) with hf | hok
  · obtain ⟨Ac', sc', Ar', cp', k, n, f, q, e1, e2, c, ⟨g1, g2, g3, g4⟩, ⟨b1, b2, b3⟩, st, hsc, oC, oR, hO⟩ := hf
    refine ⟨.inl (f, q), ?_, ⟨fun f' q' e => (by cases e; exact ⟨b1, b2, b3⟩), fun r e => by cases e⟩, Ac', sc', by omega, st, oC, Or.inl ⟨f, q, rfl, e1, g1, g2⟩⟩
    intro ze zl0 zt N fr cp Ar b ur Tr chr hfr h4 h5 h6 h7 pr hur hpb
    obtain ⟨zl, h6, h7⟩ := runz ze zl0 zt N fr cp Ar b ur Tr chr hfr h4 h5 h6 h7 pr hur hpb
    rcases run ze zl zt N fr cp Ar b ur Tr chr hfr h4 h5 h6 h7 pr hur hpb with hf2 | hok2
    · obtain ⟨Ac2, sc2, Ar2, cp2, k2, n2, f2, q2, e1', e2', c', ⟨g1', g2', g3', g4'⟩, ⟨b1', b2', b3'⟩, st', hsc', oC', oR', hO'⟩ := hf2
      rw [e1] at e1'
      have := (Prod.mk.inj (Option.some.inj e1')).1
      subst this
      rw [g1, neq (by omega) (by omega)] at g1'
      rw [g2, neq (by omega) (by omega)] at g2'
      subst g1'; subst g2'
      exact ⟨Ar2, cp2, k2, n2, c', (by rw [Nat.zero_add] at oR'; exact oR'), hO', Or.inl ⟨f, q, rfl, e2', g3', g4'⟩⟩
    · obtain ⟨Ac1, uc1, Tc1, sc1, Ar1, cp1, ur1, Tr1, ρ1, V1, W1, k1, n1, rc1, rr1, e1', -, g1', w1', -⟩ := hok2
      have u1 := prog_u g1'
      rw [e1] at e1'
      have := (Prod.mk.inj (Option.some.inj e1')).2
      exact absurd this.symm (by rw [eqm1F (by have := w1'.1; omega)]; exact id)
  · obtain ⟨Ac1, uc1, Tc1, sc1, Ar1, cp1, ur1, Tr1, ρ1, V1, W1, k1, n1, rc1, rr1, e1, e2, g1, w1, hlen⟩ := hok
    have u1 := prog_u g1
    obtain ⟨⟨chc, t1⟩, t2, -⟩ := id g1.1
    have hsc1 := g1.2.2.2.2.2.2.2.2.2.1
    obtain ⟨A7, f1, f2, f3, f4⟩ := forget_ok t2 (by omega)
    have sS : sameS Ac1 A7 := ⟨f4 _ _ (by omega), funext fun x => f4 _ x (by omega), funext fun x => f4 _ x (by omega), funext fun x => f4 _ x (by omega)⟩
    obtain ⟨Aw, y1, y2, y3, y4⟩ := write0 (sT_same sS t1) w1.1 hlen f3
    have codT : ∀ x ∈ Tc1 rc1, x ≤ 3 ∨ 100 ≤ x := fun x hx => by
      rcases sT_code t1 rc1 w1.1 x hx with q | ⟨v, q1, q2, q3, -⟩ <;> omega
    refine ⟨.inr (num0 (Tc1 rc1)), ?_, ⟨fun f' q' e => (by cases e), fun r e => by
      cases e
      exact ⟨num0_Ty (sT_Ty t1 rc1 w1.1), by rw [num0_len]; exact hlen, num0_codes codT hlen⟩⟩, Ac1, sc1, by omega, t2, g1.2.2.2.2.1, Or.inr ⟨_, rc1, A7, Aw, rfl, by have := w1.1; omega, e1, f1, y1, y3, stI_off f2 (y2 129 10 (by omega) (by omega) (by omega) (by omega)) (funext fun x => y2 133 x (by omega) (by omega) (by omega) (by omega)), fun a x q => by rw [y2 a x (by omega) (by omega) (by omega) (by omega), f4 a x (by omega)]⟩⟩
    intro ze zl0 zt N fr cp Ar b ur Tr chr hfr h4 h5 h6 h7 pr hur hpb
    obtain ⟨zl, h6, h7⟩ := runz ze zl0 zt N fr cp Ar b ur Tr chr hfr h4 h5 h6 h7 pr hur hpb
    rcases run ze zl zt N fr cp Ar b ur Tr chr hfr h4 h5 h6 h7 pr hur hpb with hf2 | hok2
    · obtain ⟨Ac2, sc2, Ar2, cp2, k2, n2, f', q', e1', -⟩ := hf2
      rw [e1] at e1'
      have := (Prod.mk.inj (Option.some.inj e1')).2
      exact absurd this (by rw [eqm1F (by have := w1.1; omega)]; exact id)
    · obtain ⟨Ac2, uc2, Tc2, sc2, Ar2, cp2, ur2, Tr2, ρ2, V2, W2, k2, n2, rc2, rr2, e1', e2', g2, w2, hlen2⟩ := hok2
      have u2 := prog_u g2
      rw [e1] at e1'
      obtain ⟨ea, er⟩ := Prod.mk.inj (Option.some.inj e1')
      subst ea
      rw [neq (by have := w1.1; omega) (by have := w2.1; omega)] at er
      subst er
      obtain ⟨⟨chc2, v1⟩, v2, ⟨chr2, v3⟩, v4, v5, v6, v7, v8⟩ := id g2.1
      obtain ⟨q1, q2, q3, q4, q5, q6, q7, q8, q9, q10, q11, q12⟩ := id g2
      obtain ⟨Aw2, y1', y2', y3', y4'⟩ := write0 (sT_same sS v1) w2.1 hlen2 f3
      rw [y1] at y1'
      obtain ⟨ew, el⟩ := Prod.mk.inj (Option.some.inj y1')
      subst ew
      rw [num0_len, num0_len, neq (by omega) (by omega)] at el
      have erow : num0 (Tc1 rc1) = num0 (Tc2 rc1) := num_ext (by rw [num0_len, num0_len]; exact el) fun i x y hx hy => by
        have z1 := y3 i x hx
        have z2 := y3' i y hy
        rw [z1, neq (by have := y4 x (List.mem_iff_getElem?.mpr ⟨i, hx⟩); omega) (by have := y4' y (List.mem_iff_getElem?.mpr ⟨i, hy⟩); omega)] at z2
        exact z2
      obtain ⟨a1, a2, a3, a4, a5, sC, sR, a6, a7, a8, a9, a10, a11, a12, a13⟩ := id q3
      have wV : ∀ x ∈ Tc2 rc1, lowV V2 x := fun x hx => (w2.2.2.2 x hx).imp id (v5 x)
      refine ⟨Ar2, cp2, k2, n2, q4, (by rw [Nat.zero_add] at q6; exact q6), v3.1.2.2.2.2.1, Or.inr ⟨_, ur2, Tr2, chr2, rr2, rfl, e2', v3, a2, by omega, w2.2.1.1, w2.2.1.2, ?_, ?_, fun m hm => ?_, a5, fun x hx => ?_, q11, q12, (by have := v6.2.1; rw [Nat.zero_add] at this; exact this), by omega⟩⟩
      · rw [← w2.2.2.1, num0_rn v4.1 wV, erow]
      · rw [← w2.2.2.1, rn_len]; exact hlen2
      · rw [a8 m hm]
        refine subE_id fun x hx => a13 x ?_ fun v hv => absurd hv id
        rcases rS_code h4.1 m hm x hx with z | ⟨v, z1, z2, -⟩ <;> omega
      · rw [← w2.2.2.1] at hx
        obtain ⟨y, hy, rfl⟩ := rn_mem.mp hx
        rcases wV y hy with z | z
        · rw [v4.1.low y z]; exact Or.inl z
        · exact Or.inr ⟨(a4 y z id).2, (v4.2 y z).2.2.2.2⟩
/-- what is kept of a result -/
def stored (A : gM) (p : Nat) (res : (Nat × Nat) ⊕ Rw) : Prop := (∀ f q, res = .inl (f, q) → kept A p (nI f) (nI q) []) ∧ ∀ r, res = .inr r → kept A p 0 (-1) r
theorem settle_ok {A : gM} {s : Nat} (hp : p < 40) (hprt : ∀ j, j < p + 1 → prt F sz j) (hsz : sz p ≤ 60) (h2 : stI A s) (pc : PTc A (p + 1) F) (hs : s + 360000 ≤ 1999990000) :
    ∃ A' s' res, mX0_settle A (nI p) = some A' ∧ Rs F p res ∧ resOK res ∧ stored A' p res ∧ stI A' s' ∧ s' ≤ s + 360001 ∧ ∀ a x, (a < 86 ∧ a ≠ 45 + p) ∨ (86 ≤ a ∧ a < 126 ∧ a ≠ 86 + p) ∨ 183 ≤ a → A' a x = A a x := by
  obtain ⟨A1, c1, c2, c3⟩ := clear_ok A
  obtain ⟨A4, hA4⟩ : ∃ A4, A4 = g_up (g_up (g_up A1 138 3 0) 128 3 0) 128 4 (-1) := ⟨_, rfl⟩
  have o4 : ∀ a x, a ≠ 138 → a ≠ 128 → A4 a x = A1 a x := fun a x q1 q2 => by rw [hA4, up_c q2, up_c q2, up_c q1]
  have s4 : sameS A1 A4 := ⟨o4 _ _ (by omega) (by omega), funext fun x => o4 _ x (by omega) (by omega), funext fun x => o4 _ x (by omega) (by omega), funext fun x => o4 _ x (by omega) (by omega)⟩
  have fr4 : ∀ a x, a < 128 ∨ 183 ≤ a → A4 a x = A a x := fun a x q => by rw [o4 a x (by omega) (by omega), c3 a x (by omega)]
  have st4 : stI A4 s := stI_off h2 (by rw [o4 _ _ (by omega) (by omega), c3 _ _ (by omega)]) (funext fun x => by rw [o4 _ _ (by omega) (by omega), c3 _ _ (by omega)])
  have e4 : A4 138 3 = nI 0 := by rw [hA4, up_c (by omega), up_c (by omega), up_s]; exact nI0.symm
  have pc4 : PTc A4 (p + 1) F := ⟨by rw [fr4 _ _ (by omega)]; exact pc.1, pc.2.1, fun j hj w hw => by rw [fr4 _ _ (by omega)]; exact pc.2.2 j hj w hw⟩
  obtain ⟨res, hRs, hRo, Ac', s', hs', st', oC, hrun⟩ := find_run hp hprt hsz (sT_same s4 c2) st4 e4 pc4 hs
  have start : ∀ B v, mX0_find 41 A4 (nI p) 0 = some (B, v) → mX0_settle A (nI p) = (if v = (-1) then (mX3_putFault B (nI p) (B 128 3) (B 128 4)).bind fun q10 => some q10 else (mX4_forgetMarks B).bind fun q7 => (mX4_write q7 v).bind fun q8 => (mX3_putRow q8.1 (nI p) q8.2).bind fun q9 => some q9) := by
    intro B v hB
    unfold mX0_settle mX0_settle_b0 mX1_clear mX1_clear_b0
    rw [bnd c1, gle, obe, gle, gle, ← hA4, bnd hB]
  rcases hrun with ⟨f, q, rfl, e1, g1, g2⟩ | ⟨r, rc, A7, Aw, rfl, hrc, e1, f1, y1, y2, st7, oC7⟩
  · obtain ⟨A', z1, z2, z3⟩ := putFault_ok (A := Ac') (p := p) (f := nI f) (q := nI q) hp
    refine ⟨A', s', .inl (f, q), ?_, hRs, hRo, ⟨fun f' q' e => (by cases e; exact z2), fun r e => by cases e⟩, stI_off st' (z3 _ _ (by omega) (by omega)) (funext fun x => z3 _ x (by omega) (by omega)), by omega, fun a x w => by rw [z3 a x (by omega) (by omega), oC a x (by omega), fr4 a x (by omega)]⟩
    rw [start _ _ e1, if_pos rfl, g1, g2, bnd z1]
  · have hr := hRo.2 r rfl
    obtain ⟨A', z1, z2, z3⟩ := putRow_ok (A := Aw) hp y2 (fun c hc => by have := hr.2.2 c hc; omega) hr.2.1
    refine ⟨A', s' + 1, .inr r, ?_, hRs, hRo, ⟨fun f' q' e => (by cases e), fun r' e => by cases e; exact z2⟩, stI_off st7 (z3 _ _ (by omega) (by omega) (by omega)) (funext fun x => z3 _ x (by omega) (by omega) (by omega)), by omega, fun a x w => by rw [z3 a x (by omega) (by omega) (by omega), oC7 a x (by omega), oC a x (by omega), fr4 a x (by omega)]⟩
    rw [start _ _ e1, if_neg (by rw [eqm1F (by omega)]; exact not_false), bnd f1, bnd y1, bnd z1]
end ST2
