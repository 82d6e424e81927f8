/-! NAMES ON BOTH SIDES -/
theorem lastK_sh {lb lb' : Nat → Nat} {l ze : Nat} (h0 : ∀ j, j < ze → lb' j ≠ l) (h1 : ∀ k, lb' (k + ze) = lb k) : ∀ k, lastK lb' l (k + ze) = (lastK lb l k).map fun j => j + ze
  | 0 => by
    have main : ∀ n, n ≤ ze → lastK lb' l n = none := by
      intro n
      induction n with
      | zero => intro _; rfl
      | succ n ih => intro hn; unfold lastK; rw [if_neg (h0 n (by omega)), ih (by omega)]
    rw [Nat.zero_add, main ze (Nat.le_refl _)]; rfl
  | k + 1 => by
    rw [show k + 1 + ze = (k + ze) + 1 by omega]
    unfold lastK
    rw [h1 k, lastK_sh h0 h1 k]
    by_cases e : lb k = l
    · rw [if_pos e, if_pos e]; rfl
    · rw [if_neg e, if_neg e]
section N6
variable {N cp k0 n0 : Nat} {A A1 : gM} {p l m k t : Nat} {K : Nat → Nat → Nat → gM → Int32 → Int32 → Option (gM × (Nat × Nat × Nat) × Int32)}
theorem name_hit (hk : k < 60) (hpa : mX6_pa cp A (nI p) 4 = some (A, nI l)) (h0 : A 190 k = nI l) (h1 : A 191 k = nI t) {u : Nat} (h3 : A 183 3 = nI u) {cp1 kk nn : Nat} {r : Int32} (hu : mX6_used N 1250 cp A (nI t) (nI u) = some (A1, (cp1, kk, nn), r)) : mX6_nameFound_b7 N cp k0 n0 K A (nI p) (nI k) = some (A1, (cp1, k0 + kk, n0 + nn), r) := by
  unfold mX6_nameFound_b7 mX6_nameFound_b40
  simp (disch := omega) only [lq2, lq3, lq4, lq5, lq6, lq7, lq8, lq9, lq10, lq11, lq40, lq59, lq60, lq61, lq100, lq500, lq2600, lq5208, lq1000000, ltT, ltF, leT, leF, eqT, eqF, lt0F, le0F, le0T, ge0T, eq0T, eq0F, eqm1F, ten0, m1lt0, eq_self, nI_add, nI_1, sub1, addm1, addm2, subn, cl0, cl1, ncl, ginT, gin0, gin1, ↓reduceIte, if_true, if_false, Nat.add_sub_cancel, obe, ↓gle, true_or, or_true, ↓(bnd hpa), h0, h1, h3, hu]
theorem name_go (hk : k < 60) (hpa : mX6_pa cp A (nI p) 4 = some (A, nI l)) (h0 : A 190 k = nI m) (hm : m ≤ 9) (hl : l ≤ 9) (hne : m ≠ l) : mX6_nameFound_b7 N cp k0 n0 K A (nI p) (nI k) = K cp k0 n0 A (nI p) (nI k + (-1)) := by
  unfold mX6_nameFound_b7
  simp (disch := omega) only [lq2, lq3, lq4, lq5, lq6, lq7, lq8, lq9, lq10, lq11, lq40, lq59, lq60, lq61, lq100, lq500, lq2600, lq5208, lq1000000, ltT, ltF, leT, leF, eqT, eqF, lt0F, le0F, le0T, ge0T, eq0T, eq0F, eqm1F, ten0, m1lt0, eq_self, nI_add, nI_1, sub1, addm1, addm2, subn, cl0, cl1, ncl, ginT, gin0, gin1, ↓reduceIte, if_true, if_false, Nat.add_sub_cancel, obe, ↓gle, true_or, or_true, ↓(bnd hpa), h0]
theorem name_end : mX6_nameFound_b7 N cp k0 n0 K A (nI p) (nI 0 + (-1)) = some (g_up (g_up A 183 12 1) 183 13 (nI p), (cp, k0, n0), -1) := by
  unfold mX6_nameFound_b7
  rw [show nI 0 + (-1) = (-1 : Int32) by decide +kernel, if_pos (by decide), rfail_k]
  exact obe
theorem name_L (hpa : mX6_pa cp A (nI p) 4 = some (A, nI l)) (hl : l ≤ 9) {lb : Nat → Nat} {ar : Nat} (har : ar ≤ 60) (hlb : ∀ k, k < ar → A 190 k = nI (lb k) ∧ lb k ≤ 9) {u : Nat} (h3 : A 183 3 = nI u) : ∀ f k, k ≤ ar → k < f →
    (lastK lb l k = none → mX6_nameFound_L7 N f cp k0 n0 A (nI p) (nI k + (-1)) = some (g_up (g_up A 183 12 1) 183 13 (nI p), (cp, k0, n0), -1)) ∧
    (∀ j t A1 cp1 kk nn r, lastK lb l k = some j → A 191 j = nI t → mX6_used N 1250 cp A (nI t) (nI u) = some (A1, (cp1, kk, nn), r) → mX6_nameFound_L7 N f cp k0 n0 A (nI p) (nI k + (-1)) = some (A1, (cp1, k0 + kk, n0 + nn), r))
  | 0, k, _, hf => by omega
  | f + 1, 0, _, _ => ⟨fun _ => name_end, fun j t A1 cp1 kk nn r h => by cases h⟩
  | f + 1, k + 1, hk, hf => by
    have e : nI (k + 1) + (-1) = nI k := by rw [addm1 (by omega), Nat.add_sub_cancel]
    obtain ⟨h1, h2⟩ := hlb k (by omega)
    have ih := name_L hpa hl har hlb h3 f k (by omega) (by omega)
    refine ⟨fun hn => ?_, fun j t A1 cp1 kk nn r hj ht hu => ?_⟩
    · unfold lastK at hn
      by_cases q : lb k = l
      · rw [if_pos q] at hn; cases hn
      · rw [if_neg q] at hn
        show mX6_nameFound_b7 N cp k0 n0 (mX6_nameFound_L7 N f) A (nI p) (nI (k + 1) + (-1)) = _
        rw [e, name_go (by omega) hpa h1 h2 hl q]
        exact ih.1 hn
    · unfold lastK at hj
      show mX6_nameFound_b7 N cp k0 n0 (mX6_nameFound_L7 N f) A (nI p) (nI (k + 1) + (-1)) = _
      rw [e]
      by_cases q : lb k = l
      · rw [if_pos q] at hj; cases hj
        exact name_hit (by omega) hpa (by rw [h1, q]) ht h3 hu
      · rw [if_neg q] at hj
        rw [name_go (by omega) hpa h1 h2 hl q]
        exact ih.2 j t A1 cp1 kk nn r hj ht hu
end N6
section CT
variable {F : Nat → Nat → Int32} {sz : Nat → Nat} {np N : Nat} {recC : gM → Int32 → Int32 → Option (gM × Int32)} {recR : Nat → gM → Int32 → Option (gM × (Nat × Nat × Nat) × Int32)} {lv p a d e l : Nat}
variable {Ac : gM} {uc : Nat} {Tc : Nat → Rw} {sc : Nat} {Ar : gM} {cp ur : Nat} {Tr : Nat → Rw} {ρ : Nat → Nat} {V W : Nat → Prop} {b ar : Nat} {env : Nat → Rw} {om : Nat → Nat → Nat} {tn : Nat → Nat} {ze zl zt : Nat}
theorem c_name (hp : p < np) (F4 : F p 4 = nI l) (hl : l ≤ 9) (hnz : l ≠ zl) (hs : sz p = 1) (har : ar + p ≤ 39) (pc : PTc Ac np F) (pr : PTr Ar np F) (h : Sim Ac uc Tc sc Ar cp b ur Tr ρ V W ar env om tn ze zl zt) (hb : bud (sz p) uc ur (prs Ar b ur).length sc) :
    FFail ar ze (sz p) (mX0_findName Ac (nI p)) (mX6_nameFound N cp Ar (nI p)) Ac sc Ar cp ∨ FOk (sz p) (mX0_findName Ac (nI p)) (mX6_nameFound N cp Ar (nI p)) (fun _ => True) Ac uc Tc sc Ar cp b ur Tr ρ V W ar env om tn ze zl zt := by
  have hpn := pc.2.1
  obtain ⟨b1, b2, b3, b4⟩ := hb
  obtain ⟨⟨chc, s1⟩, s2, ⟨chr, s3⟩, s4, s5, s6, s7, s8⟩ := id h
  have f4 : mX2_fact Ac (nI p) 4 = some (Ac, nI l) := by rw [fact_4 pc.1 hp hpn, pc.2.2 p hp 4 (by omega), F4]
  have p4 : mX6_pa cp Ar (nI p) 4 = some (Ar, nI l) := by rw [pa_4 (by omega), pr p hp 4 (by omega), F4]
  obtain ⟨lb, hlb⟩ : ∃ lb : Nat → Nat, ∀ k, k < ar → Ac 139 k = nI (lb k) ∧ Ar 190 (k + ze) = nI (lb k) ∧ lb k ≤ 9 := by
    refine ⟨fun k => (Ac 139 k).toNatClampNeg, fun k hk => ?_⟩
    obtain ⟨⟨l', h1, h2, h3⟩, -⟩ := s7 k hk
    show Ac 139 k = nI (Ac 139 k).toNatClampNeg ∧ Ar 190 (k + ze) = nI (Ac 139 k).toNatClampNeg ∧ (Ac 139 k).toNatClampNeg ≤ 9
    rw [h2, ncl (by omega)]
    exact ⟨rfl, h3, h1⟩
  have hla := latest_ok s6.1 hl s6.2.2 fun k hk => ⟨(hlb k hk).1, (hlb k hk).2.2⟩
  have hze := s8.1
  obtain ⟨lb', hlb0, hlb1⟩ : ∃ lb' : Nat → Nat, (∀ j, j < ze → lb' j = zl) ∧ ∀ k, lb' (k + ze) = lb k := ⟨fun j => if j < ze then zl else lb (j - ze), fun j hj => if_pos hj, fun k => by
    show (if k + ze < ze then zl else lb (k + ze - ze)) = lb k
    rw [if_neg (by omega), Nat.add_sub_cancel]⟩
  have hlb2 : ∀ j, j < ar + ze → Ar 190 j = nI (lb' j) ∧ lb' j ≤ 9 := fun j hj => by
    by_cases q : j < ze
    · rw [hlb0 j q]; have := s8.2 j q; exact ⟨this.2.1, this.1⟩
    · obtain ⟨k, rfl⟩ : ∃ k, j = k + ze := ⟨j - ze, by omega⟩
      rw [hlb1 k]; exact (hlb k (by omega)).2
  have hsh := lastK_sh (fun j hj => by rw [hlb0 j hj]; exact fun z => hnz z.symm) hlb1 (l := l) ar
  have hnm := name_L (N := N) (cp := cp) (k0 := 0) (n0 := 0) p4 hl (by have := s6.2.2; omega) hlb2 s3.1.1 gF (ar + ze) (Nat.le_refl _) (by have := s6.2.2; unfold gF; omega)
  have start : mX6_nameFound N cp Ar (nI p) = mX6_nameFound_L7 N gF cp 0 0 Ar (nI p) (nI (ar + ze) + (-1)) := by
    unfold mX6_nameFound mX6_nameFound_b0
    rw [gle, s6.2.1, Int32.sub_eq_add_neg]
  cases hk : lastK lb l ar with
  | none =>
    rw [hk] at hla
    refine Or.inl (FFail_at (f := 1) (p := p) (Prog_rfl h) (fun _ _ _ => rfl) s2 (by omega) (Ar2 := g_up (g_up Ar 183 12 1) 183 13 (nI p)) (fun a x q => by rw [up_get, if_neg (by omega), up_get, if_neg (by omega)]) (fun i hi => by rw [up_c (by omega), up_c (by omega)]; exact rO_of h i hi) (by omega) (by omega) (by omega) (by rw [up_p (by omega), up_s]; exact one_nI) up_s ?_ ?_)
    · have hla' : mX1_latest Ac (nI l) = some (Ac, -1) := hla
      unfold mX0_findName mX0_findName_b0
      simp (disch := omega) only [lq2, lq3, lq4, lq5, lq6, lq7, lq8, lq9, lq10, lq11, lq40, lq59, lq60, lq61, lq100, lq500, lq2600, lq5208, lq1000000, ltT, ltF, leT, leF, eqT, eqF, lt0F, le0F, le0T, ge0T, eq0T, eq0F, eqm1F, ten0, m1lt0, eq_self, nI_add, nI_1, sub1, addm1, addm2, subn, cl0, cl1, ncl, ginT, gin0, gin1, ↓reduceIte, if_true, if_false, Nat.add_sub_cancel, obe, ↓gle, true_or, or_true, ↓(bnd f4), ↓(bnd hla'), cfail_k, one_nI]
    · rw [start]; exact hnm.1 (by rw [hsh, hk]; rfl)
  | some k =>
    rw [hk] at hla
    have hkl := (lastK_lt hk).1
    have har40 := s6.2.2
    obtain ⟨Ac1, uc1, Tc1, rc, Ar1, cp1, kk, nn, ur1, Tr1, rr, ρ1, V1, x1, x2, x3, x4, x5, x6, x7, x8, x9, x10, x11, x12, x13, x14⟩ := both_name (N := N) h hkl (by omega) (by omega) (by omega)
    have ek := s7 k hkl
    have e181 : Ac 181 k = nI (env k).length := ek.2.1
    have e191 : Ar 191 (k + ze) = nI (tn k) := ek.2.2.2.1
    have hla' : mX1_latest Ac (nI l) = some (Ac, nI k) := hla
    have rA : mX1_rowAt Ac (nI k) = some (Ac, 141 + k) := rowAt_ok (by omega)
    have lA : mX1_lengthAt Ac (nI k) = some (Ac, nI (env k).length) := by rw [lengthAt_ok (by omega), e181]
    refine Or.inr ⟨Ac1, uc1, Tc1, sc, Ar1, cp1, ur1, Tr1, ρ1, V1, _, 0 + kk, 0 + nn, rc, rr, ?_, ?_, ⟨x4, fun x => Iff.rfl, x5, by rw [Nat.zero_add, Nat.zero_add]; exact x3, fun a x q => x13 a x (by omega) (by omega) (by omega) (by omega) (by omega) (by omega), fun a x q => x14 a x (by omega) (by omega), by omega, by omega, by omega, by omega, x14 183 12 (by omega) (by omega), x14 183 13 (by omega) (by omega)⟩, ⟨x6, x7, x8, x9⟩, trivial⟩
    · unfold mX0_findName mX0_findName_b0
      simp (disch := omega) only [lq2, lq3, lq4, lq5, lq6, lq7, lq8, lq9, lq10, lq11, lq40, lq59, lq60, lq61, lq100, lq500, lq2600, lq5208, lq1000000, ltT, ltF, leT, leF, eqT, eqF, lt0F, le0F, le0T, ge0T, eq0T, eq0F, eqm1F, ten0, m1lt0, eq_self, nI_add, nI_1, sub1, addm1, addm2, subn, cl0, cl1, ncl, ginT, gin0, gin1, ↓reduceIte, if_true, if_false, Nat.add_sub_cancel, obe, ↓gle, true_or, or_true, ↓(bnd f4), ↓(bnd hla'), ↓(bnd rA), ↓(bnd lA), ↓(bnd x1)]
    · rw [start]; exact hnm.2 (k + ze) (tn k) Ar1 cp1 kk nn (nI rr) (by rw [hsh, hk]; rfl) e191 x2
end CT
/-! INSIDES -/
section PI
variable {Ac : gM} {uc : Nat} {Tc : Nat → Rw} {sc : Nat} {Ar : gM} {cp ur : Nat} {Tr : Nat → Rw} {ρ : Nat → Nat} {V W : Nat → Prop} {Ac1 : gM} {uc1 : Nat} {Tc1 : Nat → Rw} {sc1 : Nat} {Ar1 : gM} {cp1 ur1 : Nat} {Tr1 : Nat → Rw} {ρ1 : Nat → Nat} {V1 W1 : Nat → Prop} {Ac2 : gM} {uc2 : Nat} {Tc2 : Nat → Rw} {sc2 : Nat} {Ar2 : gM} {cp2 ur2 : Nat} {Tr2 : Nat → Rw} {ρ2 : Nat → Nat} {V2 W2 : Nat → Prop} {b ar : Nat} {env : Nat → Rw} {om : Nat → Nat → Nat} {tn : Nat → Nat} {ze zl zt : Nat}
theorem Adv_cg {Ar' : gM} (e : ∀ m, Ar' 188 m = Ar 188 m) (h : Adv uc Tc ur Tr ρ V W Ar' uc1 Tc1 ur1 Tr1 ρ1 V1 Ar1) : Adv uc Tc ur Tr ρ V W Ar uc1 Tc1 ur1 Tr1 ρ1 V1 Ar1 := by
  obtain ⟨a1, a2, a3, a4, a5, sC, sR, a6, a7, a8, a9, a10, a11, a12, a13⟩ := h
  exact ⟨a1, a2, a3, a4, fun m hm => by rw [a5 m hm, e], sC, sR, a6, a7, a8, a9, a10, a11, fun m hm ho => a12 m hm (by rw [e]; exact ho), a13⟩
theorem Adv_cg2 {Ar' : gM} (e : ∀ m, Ar' 188 m = Ar1 188 m) (h : Adv uc Tc ur Tr ρ V W Ar uc1 Tc1 ur1 Tr1 ρ1 V1 Ar1) : Adv uc Tc ur Tr ρ V W Ar uc1 Tc1 ur1 Tr1 ρ1 V1 Ar' := by
  obtain ⟨a1, a2, a3, a4, a5, h⟩ := h
  exact ⟨a1, a2, a3, a4, fun m hm => by rw [e, a5 m hm], h⟩
theorem rW_off {A A' : gM} {cp b ur : Nat} {T : Nat → Rw} {ch : Nat → Nat} (o : ∀ a x, (185 ≤ a ∧ a ≤ 189) ∨ (a = 183 ∧ x = 3) → A' a x = A a x) (h : rW A cp b ur T ch) : rW A' cp b ur T ch := by
  have c : ∀ a, 185 ≤ a ∧ a ≤ 189 → A' a = A a := fun a q => funext fun x => o a x (Or.inl q)
  obtain ⟨⟨h1, h2, h3, h4, h5, h6⟩, h7, h8, h9⟩ := h
  refine ⟨⟨by rw [o 183 3 (Or.inr ⟨rfl, rfl⟩)]; exact h1, h2, h3, fun n hn => ?_, fun i hi => by rw [c 188 (by omega)]; exact h5 i hi, fun n hn => ?_⟩, ?_, fun n hn => by rw [c 189 (by omega)]; exact h8 n hn, h9⟩
  · have := h4 n hn
    unfold rN at this ⊢
    rw [c 185 (by omega), c 186 (by omega), c 187 (by omega)]; exact this
  · have := h6 n hn
    unfold rG at this ⊢
    rw [c 185 (by omega), c 186 (by omega)]; exact this
  · have pe : prs A' b ur = prs A b ur := prs_off fun n _ => by rw [c 185 (by omega)]
    unfold RG reg
    rw [pe, c 185 (by omega), c 186 (by omega), c 187 (by omega)]; exact h7
def psR (A : gM) (ar : Nat) (l t : Int32) : gM := g_up (g_up (g_up A 190 ar l) 191 ar t) 183 9 (nI (ar + 1))
theorem psR_off {A : gM} {ar a x : Nat} {l t : Int32} (h : ¬ (a = 190 ∧ x = ar)) (h2 : ¬ (a = 191 ∧ x = ar)) (h3 : ¬ (a = 183 ∧ x = 9)) : psR A ar l t a x = A a x := by
  unfold psR; rw [up_get, if_neg h3, up_get, if_neg h2, up_get, if_neg h]
/-- a name more around -/
theorem Sim_push (h : Sim Ac uc Tc sc Ar cp b ur Tr ρ V W ar env om tn ze zl zt) (har : ar < 40) {Ac1 : gM} {l t : Nat} {R : Rw} {o : Nat → Nat} (oC : ∀ a x, a ≠ 182 → a ≠ 141 + ar → ¬ (a = 139 ∧ x = ar) → ¬ (a = 181 ∧ x = ar) → ¬ (a = 138 ∧ x = 3) → Ac1 a x = Ac a x) (h3 : Ac1 138 3 = nI (ar + 1)) (hl : l ≤ 9) (h139 : Ac1 139 ar = nI l) (h181 : Ac1 181 ar = nI R.length) (hrow : rowIn Ac1 (141 + ar) R) (ht : b ≤ t ∧ t < ur) (hR : Ty R) (hRl : R.length ≤ 60) (hcb : codesB uc R) (hT : Tr t = subE (em ρ Tc o) R)
    (hW : ∀ c ∈ R, 100 ≤ c → ∀ x ∈ Tc (c - 100), lowV W x) (ho : ∀ c ∈ R, 10 ≤ c → c < 100 → o (c - 10) < ur ∧ ¬ Ar 188 (o (c - 10)) = 0) (hoi : ∀ c ∈ R, ∀ d ∈ R, 10 ≤ c → c < 100 → 10 ≤ d → d < 100 → o (c - 10) = o (d - 10) → c = d) :
    Sim Ac1 uc Tc sc (psR Ar (ar + ze) (nI l) (nI t)) cp b ur Tr ρ V W (ar + 1) (at1 env ar R) (at1 om ar o) (at1 tn ar t) ze zl zt := by
  obtain ⟨⟨chc, s1⟩, s2, ⟨chr, s3⟩, s4, s5, s6, s7, s8⟩ := h
  have sS : sameS Ac Ac1 := ⟨oC _ _ (by omega) (by omega) (by omega) (by omega) (by omega), funext fun x => oC _ x (by omega) (by omega) (by omega) (by omega) (by omega), funext fun x => oC _ x (by omega) (by omega) (by omega) (by omega) (by omega), funext fun x => oC _ x (by omega) (by omega) (by omega) (by omega) (by omega)⟩
  have e188 : ∀ m, psR Ar (ar + ze) (nI l) (nI t) 188 m = Ar 188 m := fun m => psR_off (by omega) (by omega) (by omega)
  refine ⟨⟨chc, sT_same sS s1⟩, stI_off s2 (oC _ _ (by omega) (by omega) (by omega) (by omega) (by omega)) (funext fun x => oC _ x (by omega) (by omega) (by omega) (by omega) (by omega)), ⟨chr, rW_off (fun a x q => psR_off (by omega) (by omega) (by omega)) s3⟩, ⟨s4.1, fun x hx => by rw [e188]; exact s4.2 x hx⟩, s5, ⟨h3, ?_, by omega⟩, fun k hk => ?_, s8.1, fun j hj => ?_⟩
  · unfold psR; rw [up_s, show ar + ze + 1 = ar + 1 + ze by omega]
  · by_cases e : k = ar
    · subst e
      rw [at1_s, at1_s, at1_s]
      refine ⟨⟨l, hl, h139, ?_⟩, h181, hrow, ?_, ht, hR, hRl, hcb, hT, hW, fun c hc q1 q2 => ⟨(ho c hc q1 q2).1, by rw [e188]; exact (ho c hc q1 q2).2⟩, hoi⟩
      · unfold psR; rw [up_c (by omega), up_c (by omega), up_s]
      · unfold psR; rw [up_c (by omega), up_s]
    · rw [at1_n e, at1_n e, at1_n e]
      obtain ⟨⟨l', e0, e1, e1'⟩, e2, e3, e4, e5, e6, e7, e8, e9, e10, e11, e12⟩ := s7 k (by omega)
      refine ⟨⟨l', e0, by rw [oC _ _ (by omega) (by omega) (by omega) (by omega) (by omega)]; exact e1, by rw [psR_off (by omega) (by omega) (by omega)]; exact e1'⟩, by rw [oC _ _ (by omega) (by omega) (by omega) (by omega) (by omega)]; exact e2, fun i c hi => by rw [oC _ _ (by omega) (by omega) (by omega) (by omega) (by omega)]; exact e3 i c hi, by rw [psR_off (by omega) (by omega) (by omega)]; exact e4, e5, e6, e7, e8, e9, e10, fun c hc q1 q2 => ⟨(e11 c hc q1 q2).1, by rw [e188]; exact (e11 c hc q1 q2).2⟩, e12⟩
  · obtain ⟨x0, x1, x2, x3⟩ := s8.2 j hj
    exact ⟨x0, by rw [psR_off (by omega) (by omega) (by omega)]; exact x1, by rw [psR_off (by omega) (by omega) (by omega)]; exact x2, x3⟩
/-- and one less -/
theorem Sim_pop {env' : Nat → Rw} {om' : Nat → Nat → Nat} {tn' : Nat → Nat} (h : Sim Ac uc Tc sc Ar cp b ur Tr ρ V W (ar + 1) env' om' tn' ze zl zt) (henv : ∀ k, k < ar → env' k = env k ∧ om' k = om k ∧ tn' k = tn k) : Sim (g_up Ac 138 3 (nI ar)) uc Tc sc (g_up Ar 183 9 (nI (ar + ze))) cp b ur Tr ρ V W ar env om tn ze zl zt := by
  obtain ⟨⟨chc, s1⟩, s2, ⟨chr, s3⟩, s4, s5, s6, s7, s8⟩ := h
  have oC : ∀ a x, ¬ (a = 138 ∧ x = 3) → g_up Ac 138 3 (nI ar) a x = Ac a x := fun a x q => by rw [up_get, if_neg q]
  have oR : ∀ a x, ¬ (a = 183 ∧ x = 9) → g_up Ar 183 9 (nI (ar + ze)) a x = Ar a x := fun a x q => by rw [up_get, if_neg q]
  refine ⟨⟨chc, sT_same (sameS_up (by omega)) s1⟩, stI_off s2 (oC _ _ (by omega)) (funext fun x => oC _ x (by omega)), ⟨chr, rW_off (fun a x q => oR a x (by omega)) s3⟩, ⟨s4.1, fun x hx => by rw [oR 188 _ (by omega)]; exact s4.2 x hx⟩, s5, ⟨up_s, up_s, by have := s6.2.2; omega⟩, fun k hk => ?_, s8.1, fun j hj => ?_⟩
  rotate_left
  · obtain ⟨x0, x1, x2, x3⟩ := s8.2 j hj
    exact ⟨x0, by rw [oR _ _ (by omega)]; exact x1, by rw [oR _ _ (by omega)]; exact x2, x3⟩
  obtain ⟨⟨l', e0, e1, e1'⟩, e2, e3, e4, e5, e6, e7, e8, e9, e10, e11, e12⟩ := s7 k (by omega)
  obtain ⟨v1, v2, v3⟩ := henv k hk
  rw [v1] at e2 e3 e6 e7 e8 e9 e10 e11 e12
  rw [v2] at e9 e11 e12
  rw [v3] at e4 e5 e9
  exact ⟨⟨l', e0, by rw [oC _ _ (by omega)]; exact e1, by rw [oR _ _ (by omega)]; exact e1'⟩, by rw [oC _ _ (by omega)]; exact e2, fun i c hi => by rw [oC _ _ (by omega)]; exact e3 i c hi, by rw [oR _ _ (by omega)]; exact e4, e5, e6, e7, e8, e9, e10, fun c hc q1 q2 => ⟨(e11 c hc q1 q2).1, by rw [oR 188 _ (by omega)]; exact (e11 c hc q1 q2).2⟩, e12⟩
theorem Prog_inside {Acp Arp : gM} {env' : Nat → Rw} {om' : Nat → Nat → Nat} {tn' : Nat → Nat} {k n du dr dp ds : Nat} (oC : offC ar Ac Acp) (oR : offR (ar + ze) Ar Arp) (e188 : ∀ m, Arp 188 m = Ar 188 m) (pe : prs Arp b ur = prs Ar b ur) (f12 : Arp 183 12 = Ar 183 12) (f13 : Arp 183 13 = Ar 183 13) (hp : Prog Acp uc Tc sc Arp cp b ur Tr ρ V W (ar + 1) env' om' tn' ze zl zt Ac2 uc2 Tc2 sc2 Ar2 cp2 ur2 Tr2 ρ2 V2 W2 k n du dr dp ds) (henv : ∀ k, k < ar → env' k = env k ∧ om' k = om k ∧ tn' k = tn k) :
    Prog Ac uc Tc sc Ar cp b ur Tr ρ V W ar env om tn ze zl zt (g_up Ac2 138 3 (nI ar)) uc2 Tc2 sc2 (g_up Ar2 183 9 (nI (ar + ze))) cp2 ur2 Tr2 ρ2 V2 W2 k n du dr dp ds := by
  obtain ⟨a1, a2, a3, a4, a5, a6, a7, a8, a9, a10, a11, a12⟩ := hp
  have hpe : prs (g_up Ar2 183 9 (nI (ar + ze))) b ur2 = prs Ar2 b ur2 := prs_off fun n _ => up_c (by omega)
  refine ⟨Sim_pop a1 henv, a2, Adv_cg2 (fun m => up_c (by omega)) (Adv_cg (fun m => e188 m) a3), a4, fun a x q => ?_, fun a x q => ?_, a7, a8, by rw [hpe]; rw [pe] at a9; exact a9, a10, by rw [up_p (by omega), a11, f12], by rw [up_p (by omega), a12, f13]⟩
  · rw [up_c (by omega), a5 a x (by omega), oC a x q]
  · rw [up_get, if_neg (by omega), a6 a x (by omega), oR a x q]
theorem ndrop_any (A : gM) : ∃ A', mX1_dropLast A = some A' ∧ ∀ a x, ¬ (a = 138 ∧ x = 3) → A' a x = A a x := by
  unfold mX1_dropLast mX1_dropLast_b0 mX1_dropLast_b17
  by_cases q : A 138 3 ≤ 0
  · exact ⟨A, by rw [if_pos q], fun _ _ _ => rfl⟩
  · exact ⟨_, by rw [if_neg q, gle], fun a x z => by rw [up_get, if_neg z]⟩
/-- a fault within an inside -/
theorem FFail_in {k n du dr dp ds s s' : Nat} {rC resC : Option (gM × Int32)} {rR resR : Option (gM × (Nat × Nat × Nat) × Int32)} {Acp Arp : gM} {scp : Nat} (h : Prog Ac uc Tc sc Ar cp b ur Tr ρ V W ar env om tn ze zl zt Ac1 uc1 Tc1 sc1 Ar1 cp1 ur1 Tr1 ρ1 V1 W1 k n du dr dp ds) (oC : offC ar Ac1 Acp) (oR : offR (ar + ze) Ar1 Arp) (hsc : scp ≤ sc1 + 2) (hf : FFail (ar + 1) ze s' rC rR Acp scp Arp cp1) (hs : ds + 2 + 6000 * s' ≤ 6000 * s)
    (hC : ∀ A', rC = some (A', -1) → ∃ A'', resC = some (A'', -1) ∧ ∀ a x, ¬ (a = 138 ∧ x = 3) → A'' a x = A' a x) (hR : ∀ A' cp' k' n', rR = some (A', (cp', k', n'), -1) → ∃ A'', resR = some (A'', (cp', k + k', n + n'), -1) ∧ ∀ a x, ¬ (a = 183 ∧ x = 9) → A'' a x = A' a x) : FFail ar ze s resC resR Ac sc Ar cp := by
  obtain ⟨a1, a2, a3, a4, a5, a6, a7, a8, a9, a10, a11, a12⟩ := h
  obtain ⟨Ac', sc', Ar', cp', k', n', f, q, e1, e2, c, ⟨e3, e3', e3'', e3'''⟩, e4, st, hsc', o1, o2, hO⟩ := hf
  obtain ⟨Ac3, z1, z2⟩ := hC _ e1
  obtain ⟨Ar3, y1, y2⟩ := hR _ _ _ _ e2
  refine ⟨Ac3, sc', Ar3, cp', k + k', n + n', f, q, z1, y1, cost_tr a4 c, ⟨by rw [z2 _ _ (by omega)]; exact e3, by rw [z2 _ _ (by omega)]; exact e3', by rw [y2 _ _ (by omega)]; exact e3'', by rw [y2 _ _ (by omega)]; exact e3'''⟩, e4, stI_off st (z2 _ _ (by omega)) (funext fun x => z2 _ x (by omega)), by omega, fun a x w => ?_, fun a x w => ?_, fun i hi => by rw [y2 _ _ (by omega)]; exact hO i hi⟩
  · rw [z2 a x (by omega), o1 a x (by omega), oC a x w, a5 a x w]
  · rw [y2 a x (by omega), o2 a x (by omega), oR a x w, a6 a x w]
end PI
section IN
variable {N cp : Nat} {recR : Nat → gM → Int32 → Option (gM × (Nat × Nat × Nat) × Int32)} {A A' : gM} {x l t : Int32} {ar : Nat}
theorem inside_k {cp' k n : Nat} {r : Int32} (h9 : A 183 9 = nI ar) (har : ar < 60) (hr : recR cp (psR A ar l t) x = some (A', (cp', k, n), r)) : mX6_inside N cp recR A x l t = some (g_up A' 183 9 (A' 183 9 - 1), (cp', 0 + k, 0 + n), r) := by
  unfold psR at hr
  unfold mX6_inside mX6_inside_b0 mX6_inside_b35
  simp (disch := omega) only [lq2, lq3, lq4, lq5, lq6, lq7, lq8, lq9, lq10, lq11, lq40, lq59, lq60, lq61, lq100, lq500, lq2600, lq5208, lq1000000, ltT, ltF, leT, leF, eqT, eqF, lt0F, le0F, le0T, ge0T, eq0T, eq0F, eqm1F, ten0, m1lt0, eq_self, nI_add, nI_1, sub1, addm1, addm2, subn, cl0, cl1, ncl, ginT, gin0, gin1, ↓reduceIte, if_true, if_false, Nat.add_sub_cancel, obe, ↓gle, true_or, or_true, upS, up_c, up_p, h9, hr]
end IN
