/-! MARKING THE NODES WITHIN A TYPE -/
theorem cnt_dec {p q : Nat → Bool} {m : Nat} (h1 : p m = true) (h2 : q m = false) (h3 : ∀ n, n ≠ m → q n = p n) : ∀ {u : Nat}, m < u → ((List.range u).filter q).length + 1 = ((List.range u).filter p).length
  | 0, hm => absurd hm (Nat.not_lt_zero _)
  | u + 1, hm => by
    rw [List.range_succ, List.filter_append, List.filter_append, List.length_append, List.length_append]
    by_cases e : m = u
    · subst e
      have : (List.range m).filter q = (List.range m).filter p := by
        apply List.filter_congr
        intro n hn
        rw [List.mem_range] at hn
        exact h3 n (by omega)
      rw [this, List.filter_cons, List.filter_cons, h1, h2]
      simp
    · have ih := cnt_dec h1 h2 h3 (u := u) (by omega)
      rw [List.filter_cons, List.filter_cons, h3 u (fun z => e z.symm)]
      by_cases hp : p u = true
      · rw [if_pos hp, if_pos hp, List.length_cons, List.length_cons]; simp only [List.filter_nil, List.length_nil]; omega
      · rw [if_neg hp, if_neg hp]; simp only [List.filter_nil, List.length_nil]; omega
def mkd (A : gM) (n : Nat) : Prop := A 133 n = A 129 10
def unm (A : gM) (u : Nat) : Nat := ((List.range u).filter fun n => decide (¬ A 133 n = A 129 10)).length
theorem unm_le {A : gM} {u : Nat} : unm A u ≤ u := by
  have := List.length_filter_le (fun n => decide (¬ A 133 n = A 129 10)) (List.range u)
  rw [List.length_range] at this; exact this
theorem mkd_up {A : gM} {m n : Nat} : mkd (g_up A 133 m (A 129 10)) n ↔ mkd A n ∨ n = m := by
  unfold mkd
  rw [up_c (a := 129) (by omega), up_get]
  by_cases e : n = m
  · subst e; simp
  · rw [if_neg (fun q => e q.2)]; simp [e]
theorem unm_up {A : gM} {u m : Nat} (hm : m < u) (h : ¬ mkd A m) : unm (g_up A 133 m (A 129 10)) u + 1 = unm A u := by
  unfold unm
  refine cnt_dec (m := m) (decide_eq_true (show ¬ A 133 m = A 129 10 from h)) ?_ (fun n hn => ?_) hm
  · rw [up_s, up_c (by omega)]; simp
  · rw [up_p hn, up_c (by omega)]
theorem unm_134 {A : gM} {u j : Nat} {v : Int32} : unm (g_up A 134 j v) u = unm A u := by
  unfold unm
  rw [g_up_cell (a := 133) (by omega), up_c (a := 129) (by omega)]
theorem mkd_134 {A : gM} {n j : Nat} {v : Int32} : mkd (g_up A 134 j v) n ↔ mkd A n := by
  unfold mkd
  rw [up_c (by omega), up_c (by omega)]
theorem mark_end {K : gM → Int32 → Int32 → Option gM} {A : gM} {x : Nat} : mX4_markWithin_b11 K A (nI 0) (nI x) = some A := by
  unfold mX4_markWithin_b11 mX4_markWithin_b121
  rw [if_pos (by decide)]
theorem mark_old {K : gM → Int32 → Int32 → Option gM} {A : gM} {x k n m : Nat} (hx : x < 1000000) (hk : k < 5208) (hA : A 134 k = nI n) (hres : mX4_resolve A (nI n) = some (A, nI m)) (hm : m < 2600) (hmk : A 133 m = A 129 10) :
    mX4_markWithin_b11 K A (nI (k + 1)) (nI x) = K A (nI k) (nI (x + 1)) := by
  unfold mX4_markWithin_b11 mX4_markWithin_b115
  simp (disch := omega) only [lq2, lq3, lq4, lq5, lq6, lq7, lq8, lq9, lq10, lq11, lq40, lq59, lq60, lq61, lq100, lq500, lq2600, lq5208, lq1000000, ltT, ltF, leT, leF, eqT, eqF, lt0F, le0F, le0T, ge0T, eq0T, eq0F, eqm1F, ten0, m1lt0, eq_self, nI_add, nI_1, sub1, addm1, addm2, subn, cl0, cl1, ncl, ginT, gin0, gin1, if_true, if_false, Nat.add_sub_cancel, obe, ↓gle, true_or, or_true, hA, hres, hmk]
theorem mark_leaf {K : gM → Int32 → Int32 → Option gM} {A : gM} {x k n m d : Nat} (hx : x < 1000000) (hk : k < 5208) (hA : A 134 k = nI n) (hres : mX4_resolve A (nI n) = some (A, nI m)) (hm : m < 2600) (hmk : ¬ A 133 m = A 129 10) (hd : A 130 m = nI d) (h2 : d ≠ 2) (h3 : d ≠ 3) (hb : d ≤ 3000) :
    mX4_markWithin_b11 K A (nI (k + 1)) (nI x) = K (g_up A 133 m (A 129 10)) (nI k) (nI (x + 1)) := by
  unfold mX4_markWithin_b11 mX4_markWithin_b115
  simp (disch := omega) only [lq2, lq3, lq4, lq5, lq6, lq7, lq8, lq9, lq10, lq11, lq40, lq59, lq60, lq61, lq100, lq500, lq2600, lq5208, lq1000000, ltT, ltF, leT, leF, eqT, eqF, lt0F, le0F, le0T, ge0T, eq0T, eq0F, eqm1F, ten0, m1lt0, eq_self, nI_add, nI_1, sub1, addm1, addm2, subn, cl0, cl1, ncl, ginT, gin0, gin1, if_true, if_false, Nat.add_sub_cancel, obe, ↓gle, true_or, or_true, upS, up_c, up_p, hA, hres, hmk, hd, isPairF]
theorem mark_pair {K : gM → Int32 → Int32 → Option gM} {A : gM} {x k n m d i j : Nat} (hx : x < 1000000) (hk : k + 2 ≤ 5208) (hA : A 134 k = nI n) (hres : mX4_resolve A (nI n) = some (A, nI m)) (hm : m < 2600) (hmk : ¬ A 133 m = A 129 10) (hd : A 130 m = nI d) (h2 : d = 2 ∨ d = 3) (hi : A 131 m = nI i) (hj : A 132 m = nI j) :
    mX4_markWithin_b11 K A (nI (k + 1)) (nI x) = K (g_up (g_up (g_up A 133 m (A 129 10)) 134 k (nI j)) 134 (k + 1) (nI i)) (nI (k + 2)) (nI (x + 1)) := by
  unfold mX4_markWithin_b11 mX4_markWithin_b115
  simp (disch := omega) only [lq2, lq3, lq4, lq5, lq6, lq7, lq8, lq9, lq10, lq11, lq40, lq59, lq60, lq61, lq100, lq500, lq2600, lq5208, lq1000000, ltT, ltF, leT, leF, eqT, eqF, lt0F, le0F, le0T, ge0T, eq0T, eq0F, eqm1F, ten0, m1lt0, eq_self, nI_add, nI_1, sub1, addm1, addm2, subn, cl0, cl1, ncl, ginT, gin0, gin1, if_true, if_false, Nat.add_sub_cancel, obe, ↓gle, true_or, or_true, upS, up_c, up_p, hA, hres, hmk, hd, hi, hj, isPairT]
/-- two memories but for the work of marking -/
def offM (A A' : gM) : Prop := ∀ a b, a ≠ 133 → a ≠ 134 → A' a b = A a b
theorem offM_rfl {A : gM} : offM A A := fun _ _ _ _ => rfl
theorem offM_tr {A B C : gM} (h1 : offM A B) (h2 : offM B C) : offM A C := fun a b q1 q2 => (h2 a b q1 q2).trans (h1 a b q1 q2)
theorem offM_S {A A' : gM} (h : offM A A') : sameS A A' := ⟨h 129 9 (by omega) (by omega), funext fun b => h 130 b (by omega) (by omega), funext fun b => h 131 b (by omega) (by omega), funext fun b => h 132 b (by omega) (by omega)⟩
def stI (A : gM) (s : Nat) : Prop := A 129 10 = nI s ∧ ∀ n, n < 2600 → ∃ m, m ≤ s ∧ A 133 n = nI m
theorem stI_up {A : gM} {s m : Nat} (h : stI A s) : stI (g_up A 133 m (A 129 10)) s := by
  refine ⟨by rw [up_c (by omega)]; exact h.1, fun n hn => ?_⟩
  by_cases e : n = m
  · subst e; exact ⟨s, Nat.le_refl _, by rw [up_s]; exact h.1⟩
  · rw [up_p e]; exact h.2 n hn
theorem stI_off {A A' : gM} {s : Nat} (h : stI A s) (h1 : A' 129 10 = A 129 10) (h2 : A' 133 = A 133) : stI A' s := ⟨by rw [h1]; exact h.1, by rw [h2]; exact h.2⟩
def ML (u : Nat) (T : Nat → Rw) (ch : Nat → Nat) (R : Nat → Prop) (s f : Nat) : Prop := ∀ (A : gM) (st : List Nat) (x : Nat), sT A u T ch → stI A s → stk A st → (∀ n ∈ st, n < u) → (∀ n ∈ st, ∀ z ∈ T n, R z) →
    (∀ m, m < u → mkd A m → ∀ v, 100 + v ∈ T m → mkd A v ∨ ∃ k ∈ st, 100 + v ∈ T k ∧ (T k).length < (T m).length) →
    st.length + unm A u ≤ 2601 → 2 * unm A u + st.length < f → x + 2 * unm A u + st.length < 1000000 →
    ∃ A', mX4_markWithin_L11 f A (nI st.length) (nI x) = some A' ∧ offM A A' ∧ stI A' s ∧ (∀ m, mkd A m → mkd A' m) ∧ (∀ m, m < u → mkd A' m → mkd A m ∨ ∀ z ∈ T m, R z) ∧ (∀ m, m < u → mkd A' m → ∀ v, 100 + v ∈ T m → mkd A' v) ∧ ∀ k ∈ st, ∀ v, 100 + v ∈ T k → mkd A' v
theorem mark_S {u : Nat} {T : Nat → Rw} {ch : Nat → Nat} {R : Nat → Prop} {s f : Nat} (ih : ML u T ch R s f) : ML u T ch R s (f + 1) := by
  intro A st x h hs hk hb hR hcov htop hf hx
  have hu := h.2.2.1
  show ∃ A', mX4_markWithin_b11 (mX4_markWithin_L11 f) A (nI st.length) (nI x) = some A' ∧ _
  cases st with
  | nil =>
    refine ⟨A, mark_end, offM_rfl, hs, fun _ q => q, fun m _ q => Or.inl q, fun m hm q v hv => ?_, fun k hk => by cases hk⟩
    rcases hcov m hm q v hv with q | ⟨k, hk, -⟩
    · exact q
    · cases hk
  | cons n st =>
    obtain ⟨m, hm, hres, hTm, hm5⟩ := resolve_ok h (hb n List.mem_cons_self)
    have hbs : ∀ k ∈ st, k < u := fun k hk2 => hb k (List.mem_cons_of_mem _ hk2)
    have hRs : ∀ k ∈ st, ∀ z ∈ T k, R z := fun k hk2 => hR k (List.mem_cons_of_mem _ hk2)
    rw [List.length_cons] at htop hf hx ⊢
    by_cases hmk : mkd A m
    · rw [mark_old (by omega) (by omega) hk.1 hres (by omega) hmk]
      obtain ⟨A', e, g1, g2, g3, g4, g5, g6⟩ := ih A st (x + 1) h hs hk.2 hbs hRs (fun m' hm' q v hv => by
        rcases hcov m' hm' q v hv with q | ⟨k, hk1, hk2, hk3⟩
        · exact Or.inl q
        · rcases List.mem_cons.mp hk1 with rfl | hk1
          · rw [← hTm] at hk2 hk3
            rcases hcov m hm hmk v hk2 with q | ⟨k', hk1', hk2', hk3'⟩
            · exact Or.inl q
            · rcases List.mem_cons.mp hk1' with rfl | hk1'
              · rw [hTm] at hk3'; omega
              · exact Or.inr ⟨k', hk1', hk2', by omega⟩
          · exact Or.inr ⟨k, hk1, hk2, hk3⟩) (by omega) (by omega) (by omega)
      refine ⟨A', e, g1, g2, g3, g4, g5, fun k hk1 v hv => ?_⟩
      rcases List.mem_cons.mp hk1 with rfl | hk1
      · rw [← hTm] at hv; exact g5 m hm (g3 m hmk) v hv
      · exact g6 k hk1 v hv
    · have hun := unm_up hm hmk
      have hRm : ∀ z ∈ T m, R z := by rw [hTm]; exact hR n List.mem_cons_self
      have leaf : ∀ d : Nat, d ≤ 3000 → d ≠ 2 → d ≠ 3 → A 130 m = nI d → (∀ v, 100 + v ∈ T m → v = m) → ∃ A', mX4_markWithin_b11 (mX4_markWithin_L11 f) A (nI (st.length + 1)) (nI x) = some A' ∧ offM A A' ∧ stI A' s ∧ (∀ m, mkd A m → mkd A' m) ∧ (∀ m, m < u → mkd A' m → mkd A m ∨ ∀ z ∈ T m, R z) ∧ (∀ m, m < u → mkd A' m → ∀ v, 100 + v ∈ T m → mkd A' v) ∧ ∀ k ∈ n :: st, ∀ v, 100 + v ∈ T k → mkd A' v := by
        intro d hd h2 h3 hk9 hv9
        rw [mark_leaf (by omega) (by omega) hk.1 hres (by omega) hmk hk9 h2 h3 hd]
        obtain ⟨A', e, g1, g2, g3, g4, g5, g6⟩ := ih (g_up A 133 m (A 129 10)) st (x + 1) (sT_same (sameS_up (by omega)) h) (stI_up hs) (stk_same (fun j _ => up_c (by omega)) hk.2) hbs hRs (fun m' hm' q v hv => by
          rw [mkd_up] at q ⊢
          rcases q with q | rfl
          · rcases hcov m' hm' q v hv with q | ⟨k, hk1, hk2, hk3⟩
            · exact Or.inl (Or.inl q)
            · rcases List.mem_cons.mp hk1 with rfl | hk1
              · rw [← hTm] at hk2; exact Or.inl (Or.inr (hv9 v hk2))
              · exact Or.inr ⟨k, hk1, hk2, hk3⟩
          · exact Or.inl (Or.inr (hv9 v hv))) (by omega) (by omega) (by omega)
        have hmm : mkd A' m := g3 m (mkd_up.mpr (Or.inr rfl))
        refine ⟨A', e, offM_tr (fun a b q1 q2 => up_c q1) g1, g2, fun k q => g3 k (mkd_up.mpr (Or.inl q)), fun k hk1 q => ?_, g5, fun k hk1 v hv => ?_⟩
        · rcases g4 k hk1 q with q | q
          · rcases mkd_up.mp q with q | rfl
            · exact Or.inl q
            · exact Or.inr hRm
          · exact Or.inr q
        · rcases List.mem_cons.mp hk1 with rfl | hk1
          · rw [← hTm] at hv; rw [hv9 v hv]; exact hmm
          · exact g6 k hk1 v hv
      rcases sN_kind (h.2.2.2.1 m hm) hm5 with ⟨h2, hkk, hT⟩ | ⟨h2, hkk, hT⟩ | ⟨h2, d, i, j, hd, hi, hj, hkk, hkl, hkr, hT⟩
      · exact leaf m (by omega) (by omega) (by omega) hkk fun v hv => by rw [hT, List.mem_singleton] at hv; omega
      · exact leaf 4 (by omega) (by omega) (by omega) hkk fun v hv => by rw [hT, List.mem_singleton] at hv; omega
      · rw [mark_pair (by omega) (by omega) hk.1 hres (by omega) hmk hkk hd hkl hkr]
        have lT : (T m).length = 1 + (T i).length + (T j).length := by rw [hT]; simp; omega
        have lI : 0 < (T i).length := by
          have := Ty_ne (sT_Ty h i hi)
          cases hh : T i with
          | nil => exact absurd hh this
          | cons _ _ => simp
        have lJ : 0 < (T j).length := by
          have := Ty_ne (sT_Ty h j hj)
          cases hh : T j with
          | nil => exact absurd hh this
          | cons _ _ => simp
        have inT : ∀ v, 100 + v ∈ T m → 100 + v ∈ T i ∨ 100 + v ∈ T j := by
          intro v hv
          rw [hT] at hv
          rcases List.mem_cons.mp hv with hv | hv
          · omega
          · exact List.mem_append.mp hv
        have iR : ∀ z ∈ T i, R z := fun z hz => hRm z (by rw [hT]; exact List.mem_cons_of_mem _ (List.mem_append.mpr (Or.inl hz)))
        have jR : ∀ z ∈ T j, R z := fun z hz => hRm z (by rw [hT]; exact List.mem_cons_of_mem _ (List.mem_append.mpr (Or.inr hz)))
        have mk2 : ∀ k, mkd (g_up (g_up (g_up A 133 m (A 129 10)) 134 st.length (nI j)) 134 (st.length + 1) (nI i)) k ↔ mkd A k ∨ k = m := fun k => by rw [mkd_134, mkd_134, mkd_up]
        have un2 : unm (g_up (g_up (g_up A 133 m (A 129 10)) 134 st.length (nI j)) 134 (st.length + 1) (nI i)) u + 1 = unm A u := by rw [unm_134, unm_134, hun]
        obtain ⟨A', e, g1, g2, g3, g4, g5, g6⟩ := ih (g_up (g_up (g_up A 133 m (A 129 10)) 134 st.length (nI j)) 134 (st.length + 1) (nI i)) (i :: j :: st) (x + 1) (sT_same (sameS_tr (sameS_up (by omega)) (sameS_tr (sameS_up (by omega)) (sameS_up (by omega)))) h)
          (stI_off (stI_up hs) (by rw [up_c (by omega), up_c (by omega)]) (by rw [g_up_cell (by omega), g_up_cell (by omega)]))
          ⟨up_s, by rw [up_p (by omega)]; exact up_s, stk_same (fun q hq => by rw [up_p (by omega), up_p (by omega), up_c (by omega)]) hk.2⟩
          (fun k hk1 => by
            rcases List.mem_cons.mp hk1 with rfl | hk1
            · exact hi
            · rcases List.mem_cons.mp hk1 with rfl | hk1
              · exact hj
              · exact hbs k hk1)
          (fun k hk1 => by
            rcases List.mem_cons.mp hk1 with rfl | hk1
            · exact iR
            · rcases List.mem_cons.mp hk1 with rfl | hk1
              · exact jR
              · exact hRs k hk1)
          (fun m' hm' q v hv => by
            rw [mk2] at q ⊢
            have two : ∀ l, (T m).length ≤ l → 100 + v ∈ T m → ∃ k ∈ i :: j :: st, 100 + v ∈ T k ∧ (T k).length < l := by
              intro l hl hv
              rcases inT v hv with w | w
              · exact ⟨i, List.mem_cons_self, w, by omega⟩
              · exact ⟨j, List.mem_cons_of_mem _ List.mem_cons_self, w, by omega⟩
            rcases q with q | rfl
            · rcases hcov m' hm' q v hv with q | ⟨k, hk1, hk2, hk3⟩
              · exact Or.inl (Or.inl q)
              · rcases List.mem_cons.mp hk1 with rfl | hk1
                · rw [← hTm] at hk2 hk3; exact Or.inr (two _ (by omega) hk2)
                · exact Or.inr ⟨k, List.mem_cons_of_mem _ (List.mem_cons_of_mem _ hk1), hk2, hk3⟩
            · exact Or.inr (two _ (Nat.le_refl _) hv))
          (by rw [List.length_cons, List.length_cons]; omega) (by rw [List.length_cons, List.length_cons]; omega) (by rw [List.length_cons, List.length_cons]; omega)
        have hmm : mkd A' m := g3 m ((mk2 m).mpr (Or.inr rfl))
        refine ⟨A', e, offM_tr (fun a b q1 q2 => by rw [up_c q2, up_c q2, up_c q1]) g1, g2, fun k q => g3 k ((mk2 k).mpr (Or.inl q)), fun k hk1 q => ?_, g5, fun k hk1 v hv => ?_⟩
        · rcases g4 k hk1 q with q | q
          · rcases (mk2 k).mp q with q | rfl
            · exact Or.inl q
            · exact Or.inr hRm
          · exact Or.inr q
        · rcases List.mem_cons.mp hk1 with rfl | hk1
          · rw [← hTm] at hv; exact g5 m hm hmm v hv
          · exact g6 k (List.mem_cons_of_mem _ (List.mem_cons_of_mem _ hk1)) v hv
theorem mark_L {u : Nat} {T : Nat → Rw} {ch : Nat → Nat} {R : Nat → Prop} {s : Nat} : ∀ f, ML u T ch R s f
  | 0 => fun _ _ _ _ _ _ _ _ _ _ hf _ => absurd hf (Nat.not_lt_zero _)
  | f + 1 => mark_S (mark_L f)
/-- what is marked is closed: with a type all the variables in it -/
def mkC (A : gM) (u : Nat) (T : Nat → Rw) : Prop := ∀ m, m < u → mkd A m → ∀ v, 100 + v ∈ T m → mkd A v
theorem markWithin_ok {A : gM} {u : Nat} {T : Nat → Rw} {ch : Nat → Nat} {s n : Nat} (h : sT A u T ch) (hs : stI A s) (hn : n < u) (hc : mkC A u T) :
    ∃ A', mX4_markWithin A (nI n) = some A' ∧ offM A A' ∧ stI A' s ∧ mkC A' u T ∧ ∀ v, v < u → T v = [100 + v] → (mkd A' v ↔ mkd A v ∨ 100 + v ∈ T n) := by
  have hun := unm_le (A := A) (u := u)
  have hu := h.2.2.1
  obtain ⟨A', e, g1, g2, g3, g4, g5, g6⟩ := mark_L (u := u) (T := T) (ch := ch) (R := fun z => z ∈ T n) (s := s) gF (g_up A 134 0 (nI n)) [n] 0 (sT_same (sameS_up (by omega)) h) (stI_off hs (up_c (by omega)) (g_up_cell (by omega))) ⟨up_s, trivial⟩
    (fun k hk => by rw [List.mem_singleton] at hk; subst hk; exact hn) (fun k hk z hz => by rw [List.mem_singleton] at hk; subst hk; exact hz)
    (fun m hm q v hv => Or.inl (mkd_134.mpr (hc m hm (mkd_134.mp q) v hv))) (by rw [unm_134, List.length_singleton]; omega) (by rw [unm_134, List.length_singleton]; unfold gF; omega) (by rw [unm_134, List.length_singleton]; omega)
  refine ⟨A', ?_, offM_tr (fun a b q1 q2 => up_c q2) g1, g2, g5, fun v hv hT => ⟨fun q => ?_, fun q => ?_⟩⟩
  · unfold mX4_markWithin mX4_markWithin_b0
    simp (disch := omega) only [lq2, lq3, lq4, lq5, lq6, lq7, lq8, lq9, lq10, lq11, lq40, lq59, lq60, lq61, lq100, lq500, lq2600, lq5208, lq1000000, ltT, ltF, leT, leF, eqT, eqF, lt0F, le0F, le0T, ge0T, eq0T, eq0F, eqm1F, ten0, m1lt0, eq_self, nI_add, nI_1, sub1, addm1, addm2, subn, cl0, cl1, ncl, ginT, gin0, gin1, if_true, if_false, Nat.add_sub_cancel, obe, ↓gle, true_or, or_true]
    exact e
  · rcases g4 v hv q with q | q
    · exact Or.inl (mkd_134.mp q)
    · exact Or.inr (q _ (by rw [hT]; exact List.mem_singleton.mpr rfl))
  · rcases q with q | q
    · exact g3 v (mkd_134.mpr q)
    · exact g6 n List.mem_cons_self v q
/-- all marks forgotten -/
theorem forget_ok {A : gM} {s : Nat} (hs : stI A s) (hb : s < 2000000000) : ∃ A', mX4_forgetMarks A = some A' ∧ stI A' (s + 1) ∧ (∀ n, n < 2600 → ¬ mkd A' n) ∧ ∀ a b, ¬ (a = 129 ∧ b = 10) → A' a b = A a b := by
  refine ⟨g_up A 129 10 (nI (s + 1)), ?_, ⟨up_s, fun n hn => ?_⟩, fun n hn q => ?_, fun a b q => by rw [up_get, if_neg q]⟩
  · unfold mX4_forgetMarks mX4_forgetMarks_b0 g_let
    dsimp only
    rw [hs.1, nI_1]
  · obtain ⟨m, h1, h2⟩ := hs.2 n hn
    exact ⟨m, by omega, by rw [up_c (by omega)]; exact h2⟩
  · obtain ⟨m, h1, h2⟩ := hs.2 n hn
    unfold mkd at q
    rw [up_c (by omega), up_s, h2, nI_eq (by omega) (by omega)] at q
    omega
