/-! THE REFERENCE'S join IS U -/
section J6
variable {cp fu : Nat} {rec : gM → Int32 → Int32 → Int32 → Option (gM × Int32)} {A A1 A2 : gM} {a b m n v o i j k l d e : Nat} {part r : Int32}
theorem join_same (ra : mX6_now cp A (nI a) = some (A, nI m)) (rb : mX6_now cp A (nI b) = some (A, nI m)) : mX6_join_b0 cp rec fu A (nI a) (nI b) part = some (A, 1) := by
  unfold mX6_join_b0
  simp (disch := omega) only [lq2, lq3, lq4, lq5, lq6, lq7, lq8, lq9, lq10, lq11, lq40, lq59, lq60, lq61, lq100, lq500, lq2600, lq5208, lq1000000, ltT, ltF, leT, leF, eqT, eqF, lt0F, le0F, le0T, ge0T, eq0T, eq0F, eqm1F, ten0, m1lt0, eq_self, nI_add, nI_1, sub1, addm1, addm2, subn, cl0, cl1, ncl, ginT, gin0, gin1, ↓reduceIte, if_true, if_false, Nat.add_sub_cancel, obe, ↓gle, true_or, or_true, ↓(bnd ra), ↓(bnd rb)]
theorem join_varl (ra : mX6_now cp A (nI a) = some (A, nI m)) (rb : mX6_now cp A (nI b) = some (A, nI n)) (hm : m < cp) (hn : n < cp) (hcp : cp ≤ 8000) (hne : m ≠ n) (hd : A 185 m = nI 4) : mX6_join_b0 cp rec fu A (nI a) (nI b) part = mX6_join_b79 cp rec fu A part (nI m) (nI n) := by
  unfold mX6_join_b0 mX6_join_b45 mX6_join_b63
  simp (disch := omega) only [lq2, lq3, lq4, lq5, lq6, lq7, lq8, lq9, lq10, lq11, lq40, lq59, lq60, lq61, lq100, lq500, lq2600, lq5208, lq1000000, ltT, ltF, leT, leF, eqT, eqF, lt0F, le0F, le0T, ge0T, eq0T, eq0F, eqm1F, ten0, m1lt0, eq_self, nI_add, nI_1, sub1, addm1, addm2, subn, cl0, cl1, ncl, ginT, gin0, gin1, ↓reduceIte, if_true, if_false, Nat.add_sub_cancel, obe, ↓gle, true_or, or_true, ↓(bnd ra), ↓(bnd rb), hd]
theorem join_varr (ra : mX6_now cp A (nI a) = some (A, nI m)) (rb : mX6_now cp A (nI b) = some (A, nI n)) (hm : m < cp) (hn : n < cp) (hcp : cp ≤ 8000) (hne : m ≠ n) (hd : A 185 m = nI d) (d4 : d ≠ 4) (db : d ≤ 3000) (he : A 185 n = nI 4) : mX6_join_b0 cp rec fu A (nI a) (nI b) part = mX6_join_b79 cp rec fu A part (nI n) (nI m) := by
  unfold mX6_join_b0 mX6_join_b45 mX6_join_b63
  simp (disch := omega) only [lq2, lq3, lq4, lq5, lq6, lq7, lq8, lq9, lq10, lq11, lq40, lq59, lq60, lq61, lq100, lq500, lq2600, lq5208, lq1000000, ltT, ltF, leT, leF, eqT, eqF, lt0F, le0F, le0T, ge0T, eq0T, eq0F, eqm1F, ten0, m1lt0, eq_self, nI_add, nI_1, sub1, addm1, addm2, subn, cl0, cl1, ncl, ginT, gin0, gin1, ↓reduceIte, if_true, if_false, Nat.add_sub_cancel, obe, ↓gle, true_or, or_true, ↓(bnd ra), ↓(bnd rb), hd, he]
theorem join_kind (ra : mX6_now cp A (nI a) = some (A, nI m)) (rb : mX6_now cp A (nI b) = some (A, nI n)) (hm : m < cp) (hn : n < cp) (hcp : cp ≤ 8000) (hne : m ≠ n) (hd : A 185 m = nI d) (he : A 185 n = nI e) (d4 : d ≠ 4) (e4 : e ≠ 4) (hde : d ≠ e) (db : d ≤ 3000) (eb : e ≤ 3000) : mX6_join_b0 cp rec fu A (nI a) (nI b) part = some (g_up (g_up A 183 12 (nI 2)) 183 13 part, 0) := by
  unfold mX6_join_b0 mX6_join_b151 mX6_failed mX6_failed_b0
  simp (disch := omega) only [lq2, lq3, lq4, lq5, lq6, lq7, lq8, lq9, lq10, lq11, lq40, lq59, lq60, lq61, lq100, lq500, lq2600, lq5208, lq1000000, ltT, ltF, leT, leF, eqT, eqF, lt0F, le0F, le0T, ge0T, eq0T, eq0F, eqm1F, ten0, m1lt0, eq_self, nI_add, nI_1, sub1, addm1, addm2, subn, cl0, cl1, ncl, ginT, gin0, gin1, ↓reduceIte, if_true, if_false, Nat.add_sub_cancel, obe, ↓gle, true_or, or_true, ↓(bnd ra), ↓(bnd rb), hd, he]
theorem join_leaf (ra : mX6_now cp A (nI a) = some (A, nI m)) (rb : mX6_now cp A (nI b) = some (A, nI n)) (hm : m < cp) (hn : n < cp) (hcp : cp ≤ 8000) (hne : m ≠ n) (hd : A 185 m = nI d) (he : A 185 n = nI d) (d4 : d < 2) : mX6_join_b0 cp rec fu A (nI a) (nI b) part = some (A, 1) := by
  have hp := isPair6F (cp := cp) hm hcp hd (by omega) (by omega) (by omega)
  unfold mX6_join_b0 mX6_join_b205 mX6_join_b210
  simp (disch := omega) only [lq2, lq3, lq4, lq5, lq6, lq7, lq8, lq9, lq10, lq11, lq40, lq59, lq60, lq61, lq100, lq500, lq2600, lq5208, lq1000000, ltT, ltF, leT, leF, eqT, eqF, lt0F, le0F, le0T, ge0T, eq0T, eq0F, eqm1F, ten0, m1lt0, eq_self, nI_add, nI_1, sub1, addm1, addm2, subn, cl0, cl1, ncl, ginT, gin0, gin1, ↓reduceIte, if_true, if_false, Nat.add_sub_cancel, obe, ↓gle, true_or, or_true, ↓(bnd ra), ↓(bnd rb), hd, he, hp]
theorem join_pair0 (ra : mX6_now cp A (nI a) = some (A, nI m)) (rb : mX6_now cp A (nI b) = some (A, nI n)) (hm : m < cp) (hn : n < cp) (hcp : cp ≤ 8000) (hne : m ≠ n) (hd : A 185 m = nI d) (he : A 185 n = nI d) (d4 : d = 2 ∨ d = 3) (hi : A 186 m = nI i) (hk : A 186 n = nI k) (h1 : rec A (nI i) (nI k) part = some (A1, 0)) : mX6_join_b0 cp rec fu A (nI a) (nI b) part = some (A1, 0) := by
  have hp := isPair6T (cp := cp) hm hcp hd d4
  unfold mX6_join_b0 mX6_join_b209 mX6_join_b210
  simp (disch := omega) only [lq2, lq3, lq4, lq5, lq6, lq7, lq8, lq9, lq10, lq11, lq40, lq59, lq60, lq61, lq100, lq500, lq2600, lq5208, lq1000000, ltT, ltF, leT, leF, eqT, eqF, lt0F, le0F, le0T, ge0T, eq0T, eq0F, eqm1F, ten0, m1lt0, eq_self, nI_add, nI_1, sub1, addm1, addm2, subn, cl0, cl1, ncl, ginT, gin0, gin1, ↓reduceIte, if_true, if_false, Nat.add_sub_cancel, obe, ↓gle, true_or, or_true, ↓(bnd ra), ↓(bnd rb), hd, he, ↓(bnd hp), hi, hk, h1]
theorem join_pair (ra : mX6_now cp A (nI a) = some (A, nI m)) (rb : mX6_now cp A (nI b) = some (A, nI n)) (hm : m < cp) (hn : n < cp) (hcp : cp ≤ 8000) (hne : m ≠ n) (hd : A 185 m = nI d) (he : A 185 n = nI d) (d4 : d = 2 ∨ d = 3) (hi : A 186 m = nI i) (hk : A 186 n = nI k) (h1 : rec A (nI i) (nI k) part = some (A1, 1)) (hj : A1 187 m = nI j) (hl : A1 187 n = nI l) (hr : r = 0 ∨ r = 1) (h2 : rec A1 (nI j) (nI l) part = some (A2, r)) : mX6_join_b0 cp rec fu A (nI a) (nI b) part = some (A2, r) := by
  have hp := isPair6T (cp := cp) hm hcp hd d4
  unfold mX6_join_b0 mX6_join_b209 mX6_join_b205 mX6_join_b210
  rcases hr with rfl | rfl
  · simp (disch := omega) only [lq2, lq3, lq4, lq5, lq6, lq7, lq8, lq9, lq10, lq11, lq40, lq59, lq60, lq61, lq100, lq500, lq2600, lq5208, lq1000000, ltT, ltF, leT, leF, eqT, eqF, lt0F, le0F, le0T, ge0T, eq0T, eq0F, eqm1F, ten0, m1lt0, eq_self, nI_add, nI_1, sub1, addm1, addm2, subn, cl0, cl1, ncl, ginT, gin0, gin1, ↓reduceIte, if_true, if_false, Nat.add_sub_cancel, obe, ↓gle, true_or, or_true, ↓(bnd ra), ↓(bnd rb), hd, he, ↓(bnd hp), hi, hk, h1, hj, hl, h2]
  · simp (disch := omega) only [lq2, lq3, lq4, lq5, lq6, lq7, lq8, lq9, lq10, lq11, lq40, lq59, lq60, lq61, lq100, lq500, lq2600, lq5208, lq1000000, ltT, ltF, leT, leF, eqT, eqF, lt0F, le0F, le0T, ge0T, eq0T, eq0F, eqm1F, ten0, m1lt0, eq_self, nI_add, nI_1, sub1, addm1, addm2, subn, cl0, cl1, ncl, ginT, gin0, gin1, ↓reduceIte, if_true, if_false, Nat.add_sub_cancel, obe, ↓gle, true_or, or_true, ↓(bnd ra), ↓(bnd rb), hd, he, ↓(bnd hp), hi, hk, h1, hj, hl, h2]
theorem join_bind (hv : v < cp) (hcp : cp ≤ 8000) (hh : mX6_has cp fu A (nI o) (nI v) = some (A, 0)) : mX6_join_b79 cp rec fu A part (nI v) (nI o) = some (g_up A 186 v (nI o), 1) := by
  unfold mX6_join_b79
  simp (disch := omega) only [lq2, lq3, lq4, lq5, lq6, lq7, lq8, lq9, lq10, lq11, lq40, lq59, lq60, lq61, lq100, lq500, lq2600, lq5208, lq1000000, ltT, ltF, leT, leF, eqT, eqF, lt0F, le0F, le0T, ge0T, eq0T, eq0F, eqm1F, ten0, m1lt0, eq_self, nI_add, nI_1, sub1, addm1, addm2, subn, cl0, cl1, ncl, ginT, gin0, gin1, ↓reduceIte, if_true, if_false, Nat.add_sub_cancel, obe, ↓gle, true_or, or_true, hh]
theorem join_within (hh : mX6_has cp fu A (nI o) (nI v) = some (A, 1)) : mX6_join_b79 cp rec fu A part (nI v) (nI o) = some (g_up (g_up A 183 12 (nI 3)) 183 13 part, 0) := by
  unfold mX6_join_b79 mX6_join_b107 mX6_failed mX6_failed_b0
  simp (disch := omega) only [lq2, lq3, lq4, lq5, lq6, lq7, lq8, lq9, lq10, lq11, lq40, lq59, lq60, lq61, lq100, lq500, lq2600, lq5208, lq1000000, ltT, ltF, leT, leF, eqT, eqF, lt0F, le0F, le0T, ge0T, eq0T, eq0F, eqm1F, ten0, m1lt0, eq_self, nI_add, nI_1, sub1, addm1, addm2, subn, cl0, cl1, ncl, ginT, gin0, gin1, ↓reduceIte, if_true, if_false, Nat.add_sub_cancel, obe, ↓gle, true_or, or_true, hh]
end J6
def rbd (A : gM) (n : Nat) : Prop := A 185 n = nI 4 ∧ ¬ A 186 n = -1
theorem rbd_up {A : gM} {v o n : Nat} : rbd (g_up A 186 v (nI o)) n ↔ if n = v then A 185 v = nI 4 ∧ ¬ nI o = -1 else rbd A n := by
  unfold rbd
  by_cases e : n = v
  · subst e; rw [if_pos rfl, up_c (by omega), up_s]
  · rw [if_neg e, up_c (by omega), up_p e]
theorem rG_up {A : gM} {u v o : Nat} (hv : v < u) (h4 : A 185 v = nI 4) (h6 : A 186 v = -1) (ho : o ≤ 8000) : rG (g_up A 186 v (nI o)) u = rG A u + 1 := by
  unfold rG
  refine (cnt_dec (m := v) ?_ ?_ (fun n hn => ?_) hv).symm
  · rw [up_c (by omega), up_s]; exact decide_eq_true ⟨h4, by rw [eqm1F (by omega)]; exact not_false⟩
  · exact decide_eq_false fun q => q.2 h6
  · rw [up_c (by omega), up_p hn]
theorem rS_bind {A : gM} {cp u : Nat} {T : Nat → Rw} {ch : Nat → Nat} {v o : Nat} (h : rS A cp u T ch) (hv : v < u) (h4 : A 185 v = nI 4) (h6 : A 186 v = -1) (hTv : T v = [10 + v]) (ho : o < u) (hfo : rfr A o) (hvo : v ≠ o) (hnot : 10 + v ∉ T o) :
    ∃ ch', rS (g_up A 186 v (nI o)) cp u (fun n => apL [(10 + v, T o)] (T n)) ch' := by
  have hu := h.2.2.1
  have hcp := okc_le h.2.1
  have dec : ∀ n, rbd (g_up A 186 v (nI o)) n ∨ ¬ rbd (g_up A 186 v (nI o)) n := fun n => Classical.em _
  obtain ⟨ch', hch⟩ : ∃ ch' : Nat → Nat, ∀ n, (rbd (g_up A 186 v (nI o)) n → ch' n = ch n + 1) ∧ (¬ rbd (g_up A 186 v (nI o)) n → ch' n = 0) := by
    classical
    refine ⟨fun n => if rbd (g_up A 186 v (nI o)) n then ch n + 1 else 0, fun n => ⟨fun q => if_pos q, fun q => if_neg q⟩⟩
  have le1 : ∀ n, ch' n ≤ ch n + 1 := fun n => by
    rcases dec n with q | q
    · rw [(hch n).1 q]; omega
    · rw [(hch n).2 q]; omega
  refine ⟨ch', by rw [up_c (by omega)]; exact h.1, h.2.1, hu, fun n hn => ?_, fun i hi => by rw [up_c (by omega)]; exact h.2.2.2.2.1 i hi, fun n hn => ?_⟩
  · by_cases e : n = v
    · subst e
      refine Or.inr (Or.inr (Or.inl ⟨by rw [up_c (by omega)]; exact h4, o, ho, up_s, ?_, ?_⟩))
      · show sb (10 + n) (T o) (T n) = sb (10 + n) (T o) (T o)
        rw [hTv, sb_one, sb_not hnot]
      · rw [(hch n).1 (by rw [rbd_up, if_pos rfl]; exact ⟨h4, by rw [eqm1F (by omega)]; exact not_false⟩), (hch o).2 (by rw [rbd_up, if_neg (fun q => hvo q.symm)]; exact fun q => q.2 (hfo q.1))]; omega
    · rcases h.2.2.2.1 n hn with ⟨c, hc, hk, hT⟩ | ⟨hk, hl, hT⟩ | ⟨hk, i, hi, hl, hT, hc⟩ | ⟨c, i, j, hc, hi, hj, hk, hl, hr, hT⟩
      · refine Or.inl ⟨c, hc, by rw [up_c (by omega)]; exact hk, ?_⟩
        show sb (10 + v) (T o) (T n) = _
        rw [hT, sb_ne (by omega)]
      · refine Or.inr (Or.inl ⟨by rw [up_c (by omega)]; exact hk, by rw [up_p e]; exact hl, ?_⟩)
        show sb (10 + v) (T o) (T n) = _
        rw [hT, sb_ne (by omega)]
      · refine Or.inr (Or.inr (Or.inl ⟨by rw [up_c (by omega)]; exact hk, i, hi, by rw [up_p e]; exact hl, by show sb (10 + v) (T o) (T n) = sb (10 + v) (T o) (T i); rw [hT], ?_⟩))
        rw [(hch n).1 (by rw [rbd_up, if_neg e]; exact ⟨hk, by rw [hl, eqm1F (by omega)]; exact not_false⟩)]
        have := le1 i; omega
      · refine Or.inr (Or.inr (Or.inr ⟨c, i, j, hc, hi, hj, by rw [up_c (by omega)]; exact hk, by rw [up_p e]; exact hl, by rw [up_c (by omega)]; exact hr, ?_⟩))
        show sb (10 + v) (T o) (T n) = c :: (sb (10 + v) (T o) (T i) ++ sb (10 + v) (T o) (T j))
        rw [hT, sb_cons, if_neg (by omega), sb_app]; rfl
  · rw [rG_up hv h4 h6 (by omega)]
    have := le1 n; have := h.2.2.2.2.2 n hn; omega
theorem reg_bind {A : gM} {P : Nat → Prop} {S : List Nat} {v o : Nat} (h : reg A P S) (h4 : A 185 v = nI 4) (hPo : P o) (ho : o ≤ 8000) : reg (g_up A 186 v (nI o)) P S := by
  intro n hn
  by_cases e : n = v
  · subst e
    refine ⟨fun i _ z hi => ?_, fun c i j hc z => ?_⟩
    · rw [up_s, neq (by omega) (by omega)] at z; subst z; exact hPo
    · rw [up_c (by omega), h4, neq (by omega) (by omega)] at z; omega
  · refine ⟨fun i z1 z2 z3 => ?_, fun c i j hc z1 z2 z3 z4 z5 => ?_⟩
    · rw [up_c (by omega)] at z1; rw [up_p e] at z2; exact (h n hn).1 i z1 z2 z3
    · rw [up_c (by omega)] at z1 z3; rw [up_p e] at z2; exact (h n hn).2 c i j hc z1 z2 z3 z4 z5
/-- what a join changes: lefts of free variables, and fault and place -/
def offJ (A A' : gM) : Prop := (∀ a b, a ≠ 186 → ¬ (a = 183 ∧ b = 12) → ¬ (a = 183 ∧ b = 13) → A' a b = A a b) ∧ ∀ b, A' 186 b = A 186 b ∨ (A 185 b = nI 4 ∧ A 186 b = -1)
theorem offJ_rfl {A : gM} : offJ A A := ⟨fun _ _ _ _ _ => rfl, fun _ => Or.inl rfl⟩
theorem offJ_tr {A B C : gM} (h1 : offJ A B) (h2 : offJ B C) : offJ A C := by
  refine ⟨fun a b q1 q2 q3 => (h2.1 a b q1 q2 q3).trans (h1.1 a b q1 q2 q3), fun b => ?_⟩
  rcases h1.2 b with q | q
  · rcases h2.2 b with p | p
    · exact Or.inl (p.trans q)
    · rw [h1.1 185 b (by omega) (by omega) (by omega), q] at p; exact Or.inr p
  · exact Or.inr q
theorem offJ_bind {A : gM} {v : Nat} {x : Int32} (h4 : A 185 v = nI 4) (h6 : A 186 v = -1) : offJ A (g_up A 186 v x) := by
  refine ⟨fun a b q1 _ _ => up_c q1, fun b => ?_⟩
  by_cases e : b = v
  · subst e; exact Or.inr ⟨h4, h6⟩
  · exact Or.inl (up_p e)
theorem offJ_fail {A : gM} {x y : Int32} : offJ A (g_up (g_up A 183 12 x) 183 13 y) := ⟨fun a b _ q2 q3 => by rw [up_get, if_neg q3, up_get, if_neg q2], fun b => Or.inl (by rw [up_c (by omega), up_c (by omega)])⟩
def JOut (cp f : Nat) (A : gM) (u : Nat) (T : Nat → Rw) (P : Nat → Prop) (S : List Nat) (a b : Nat) (part : Int32) : Prop :=
  ∃ g res, U g (T a) (T b) = some res ∧
    ((∃ n A', res = .inl n ∧ n ≤ 3 ∧ 1 ≤ n ∧ mX6_join cp f A (nI a) (nI b) part = some (A', 0) ∧ A' 183 12 = nI n ∧ A' 183 13 = part ∧ offJ A A') ∨
     (∃ bs A' ch', res = .inr bs ∧ mX6_join cp f A (nI a) (nI b) part = some (A', 1) ∧ rS A' cp u (fun n => apL bs (T n)) ch' ∧ reg A' P S ∧ offJ A A' ∧ A' 183 12 = A 183 12 ∧ A' 183 13 = A 183 13 ∧ ∀ x, ¬ P x → A' 186 x = A 186 x))
theorem join_ok {cp u : Nat} {P : Nat → Prop} {S : List Nat} {part : Int32} (hP : ∀ n, P n → n < u) : ∀ (f : Nat) (A : gM) (T : Nat → Rw) (ch : Nat → Nat) (a b d : Nat), rS A cp u T ch → reg A P S → P a → P b → abv T (fun k => k ∈ S) a d → abv T (fun k => k ∈ S) b d → S.length + 1 < f + d → JOut cp f A u T P S a b part
  | 0, A, T, ch, a, b, d, _, _, _, _, ha, _, hf => by have := abv_le ha S fun k hk => hk; omega
  | f + 1, A, T, ch, a, b, d, h, hr, hPa, hPb, hda, hdb, hf => by
    have hu := h.2.2.1
    have hcp := okc_le h.2.1
    have hTy := rS_Ty h
    obtain ⟨m, x, hm, hPm, xb, hkx, ra, hTm, hfm, casem⟩ := now_kind h hr hP hPa
    obtain ⟨n, y, hn, hPn, yb, hky, rb, hTn, hfn, casen⟩ := now_kind h hr hP hPb
    have hTa : T a = T m := hTm.symm
    have hTb : T b = T n := hTn.symm
    have var : ∀ v o : Nat, v < u → o < u → P v → P o → v ≠ o → A 185 v = nI 4 → A 186 v = -1 → T v = [10 + v] → rfr A v → rfr A o → abv T (fun k => k ∈ S) o d → U 1 (T a) (T b) = some (if 10 + v ∈ T o then .inl 3 else .inr [(10 + v, T o)]) → mX6_join cp (f + 1) A (nI a) (nI b) part = mX6_join_b79 cp (mX6_join cp f) f A part (nI v) (nI o) → JOut cp (f + 1) A u T P S a b part := by
      intro v o hv ho hPv hPo hvo h4 h6 hTv hfv hfo hdo hU he
      have hh := has_ok h hr hP hv hTv hfv f o d hPo hdo (by omega)
      refine ⟨1, _, hU, ?_⟩
      by_cases q : 10 + v ∈ T o
      · rw [if_pos q] at hh ⊢
        exact Or.inl ⟨3, _, rfl, by omega, by omega, by rw [he]; exact join_within hh, by rw [up_p (by omega), up_s], by rw [up_s], offJ_fail⟩
      · rw [if_neg q] at hh ⊢
        obtain ⟨ch', hS⟩ := rS_bind h hv h4 h6 hTv ho hfo hvo q
        exact Or.inr ⟨_, _, ch', rfl, by rw [he]; exact join_bind (by omega) (by omega) hh, hS, reg_bind hr h4 hPo (by omega), offJ_bind h4 h6, up_c (by omega), up_c (by omega), fun x hx => up_p fun q => hx (by rw [q]; exact hPv)⟩
    by_cases emn : m = n
    · subst emn
      refine ⟨1, .inr [], by rw [hTa, hTb]; exact U_refl _, Or.inr ⟨[], A, ch, rfl, join_same ra rb, h, hr, offJ_rfl, rfl, rfl, fun _ _ => rfl⟩⟩
    · by_cases x4 : x = 4
      · subst x4
        obtain ⟨h6, hTv⟩ : A 186 m = -1 ∧ T m = [10 + m] := by
          rcases casem with ⟨q, -⟩ | ⟨-, q⟩ | ⟨q, -⟩
          · omega
          · exact q
          · omega
        refine var m n hm hn hPm hPn emn hkx h6 hTv hfm hfn (abv_same hTb hdb) ?_ (join_varl ra rb (by omega) (by omega) (by omega) emn hkx)
        rw [hTa, hTb, hTv]
        refine U_varl (by omega) (fun q => ?_) (Ty_ne (hTy n hn))
        rcases casen with ⟨q1, q2⟩ | ⟨-, -, q2⟩ | ⟨q1, i, j, -, -, -, -, -, -, -, q2⟩
        · rw [q2] at q; have := (List.cons.inj q).1; omega
        · rw [q2] at q; have := (List.cons.inj q).1; omega
        · rw [q2] at q; have := (List.cons.inj q).1; omega
      · have headm : ∃ r, T m = x :: r ∧ x < 4 := by
          rcases casem with ⟨q1, q2⟩ | ⟨q1, -⟩ | ⟨q1, i, j, -, -, -, -, -, -, -, q2⟩
          · exact ⟨[], q2, by omega⟩
          · exact absurd q1 x4
          · exact ⟨_, q2, by omega⟩
        obtain ⟨r, hTx, hx4⟩ := headm
        by_cases y4 : y = 4
        · subst y4
          obtain ⟨h6, hTv⟩ : A 186 n = -1 ∧ T n = [10 + n] := by
            rcases casen with ⟨q, -⟩ | ⟨-, q⟩ | ⟨q, -⟩
            · omega
            · exact q
            · omega
          refine var n m hn hm hPn hPm (fun q => emn q.symm) hky h6 hTv hfn hfm (abv_same hTa hda) ?_ (join_varr ra rb (by omega) (by omega) (by omega) emn hkx x4 xb hky)
          rw [hTa, hTb, hTv, hTx]
          exact U_varr (by omega) (by omega)
        · have headn : ∃ r, T n = y :: r ∧ y < 4 := by
            rcases casen with ⟨q1, q2⟩ | ⟨q1, -⟩ | ⟨q1, i, j, -, -, -, -, -, -, -, q2⟩
            · exact ⟨[], q2, by omega⟩
            · exact absurd q1 y4
            · exact ⟨_, q2, by omega⟩
          obtain ⟨r', hTy', hy4⟩ := headn
          by_cases exy : x = y
          · subst exy
            rcases casem with ⟨q1, q2⟩ | ⟨q1, -⟩ | ⟨hxx, i, j, hPi, hPj, hi, hj, hmS, hmi, hmj, hTp⟩
            · rcases casen with ⟨p1, p2⟩ | ⟨p1, -⟩ | ⟨p1, -⟩
              · exact ⟨1, .inr [], by rw [hTa, hTb, q2, p2]; exact U_refl _, Or.inr ⟨[], A, ch, rfl, join_leaf ra rb (by omega) (by omega) (by omega) emn hkx hky q1, h, hr, offJ_rfl, rfl, rfl, fun _ _ => rfl⟩⟩
              · exact absurd p1 y4
              · omega
            · exact absurd q1 x4
            · rcases casen with ⟨p1, p2⟩ | ⟨p1, -⟩ | ⟨-, k, l, hPk, hPl, hk, hl, hnS, hnk, hnl, hTq⟩
              · omega
              · exact absurd p1 y4
              · have hx10 : x < 10 := by omega
                obtain ⟨ga, res1, hU1, hres1⟩ := join_ok hP f A T ch i k (d + 1) h hr hPi hPk (abv_down (x := [x]) hda hmS hTa (by simp) (by rw [hTp]; rfl)) (abv_down (x := [x]) hdb hnS hTb (by simp) (by rw [hTq]; rfl)) (by omega)
                rcases hres1 with ⟨z, A', rfl, hz, hz1, e1, f1, f2, o1⟩ | ⟨bs1, A1, ch1, rfl, e1, h1, hr1, o1, f1, f2, u1⟩
                · exact ⟨ga + 1, .inl z, by rw [hTa, hTb, hTp, hTq]; exact U_pair1 hx10 (hTy i hi) (hTy k hk) hU1, Or.inl ⟨z, A', rfl, hz, hz1, join_pair0 ra rb (by omega) (by omega) (by omega) emn hkx hky hxx hmi hnk e1, f1, f2, o1⟩⟩
                · have ok1 : okB bs1 := U_okB ga (hTy i hi) (hTy k hk) hU1
                  have T2m : apL bs1 (T m) = x :: (apL bs1 (T i) ++ apL bs1 (T j)) := by rw [hTp, apL_cons ok1 hx10, apL_app2]
                  have T2n : apL bs1 (T n) = x :: (apL bs1 (T k) ++ apL bs1 (T l)) := by rw [hTq, apL_cons ok1 hx10, apL_app2]
                  have j7 : A1 187 m = nI j := by rw [o1.1 187 m (by omega) (by omega) (by omega)]; exact hmj
                  have l7 : A1 187 n = nI l := by rw [o1.1 187 n (by omega) (by omega) (by omega)]; exact hnl
                  obtain ⟨gb, res2, hU2, hres2⟩ := join_ok hP f A1 (fun n => apL bs1 (T n)) ch1 j l (d + 1) h1 hr1 hPj hPl
                    (abv_down (x := x :: apL bs1 (T i)) (y := []) (m := m) (abv_ap ok1 hda) hmS (by rw [hTa]) (by simp) (by rw [T2m]; simp))
                    (abv_down (x := x :: apL bs1 (T k)) (y := []) (m := n) (abv_ap ok1 hdb) hnS (by rw [hTb]) (by simp) (by rw [T2n]; simp)) (by omega)
                  rcases hres2 with ⟨z, A', rfl, hz, hz1, e2, p1, p2, o2⟩ | ⟨bs2, A2, ch2, rfl, e2, h2, hr2, o2, p1, p2, u2⟩
                  · obtain ⟨g, hU⟩ := U_pairF (a1 := T i) (a2 := T j) (b1 := T k) (b2 := T l) hx10 (hTy i hi) (hTy k hk) hU1 hU2
                    exact ⟨g, .inl z, by rw [hTa, hTb, hTp, hTq]; exact hU, Or.inl ⟨z, A', rfl, hz, hz1, join_pair ra rb (by omega) (by omega) (by omega) emn hkx hky hxx hmi hnk e1 j7 l7 (Or.inl rfl) e2, p1, p2, offJ_tr o1 o2⟩⟩
                  · obtain ⟨g, hU⟩ := U_pairS (a1 := T i) (a2 := T j) (b1 := T k) (b2 := T l) hx10 (hTy i hi) (hTy k hk) hU1 hU2
                    have comp : (fun n => apL (bs1 ++ bs2) (T n)) = fun n => apL bs2 (apL bs1 (T n)) := funext fun n => apL_comp
                    exact ⟨g, .inr (bs1 ++ bs2), by rw [hTa, hTb, hTp, hTq]; exact hU, Or.inr ⟨bs1 ++ bs2, A2, ch2, rfl, join_pair ra rb (by omega) (by omega) (by omega) emn hkx hky hxx hmi hnk e1 j7 l7 (Or.inr rfl) e2, by rw [comp]; exact h2, hr2, offJ_tr o1 o2, p1.trans f1, p2.trans f2, fun x hx => (u2 x hx).trans (u1 x hx)⟩⟩
          · exact ⟨1, .inl 2, by rw [hTa, hTb, hTx, hTy']; exact U_kind (by omega) (by omega) exy, Or.inl ⟨2, _, rfl, by omega, by omega, join_kind ra rb (by omega) (by omega) (by omega) emn hkx hky x4 y4 exy xb yb, by rw [up_p (by omega), up_s], by rw [up_s], offJ_fail⟩⟩
