/-! WRITING A ROW -/
/-- two memories but for the work of writing -/
def offW (A A' : gM) : Prop := ∀ a b, a ≠ 134 → a ≠ 137 → a ≠ 182 → ¬ (a = 129 ∧ b = 8) → A' a b = A a b
theorem offW_rfl {A : gM} : offW A A := fun _ _ _ _ _ _ => rfl
theorem offW_tr {A B C : gM} (h1 : offW A B) (h2 : offW B C) : offW A C := fun a b q1 q2 q3 q4 => (h2 a b q1 q2 q3 q4).trans (h1 a b q1 q2 q3 q4)
theorem offW_S {A A' : gM} (h : offW A A') : sameS A A' := ⟨h 129 9 (by omega) (by omega) (by omega) (by omega), funext fun b => h 130 b (by omega) (by omega) (by omega) (by omega), funext fun b => h 131 b (by omega) (by omega) (by omega) (by omega), funext fun b => h 132 b (by omega) (by omega) (by omega) (by omega)⟩
theorem offW_kp {A A' : gM} (h : offW A A') : kp A' = kp A := by
  funext c
  unfold kp
  rw [h 133 _ (by omega) (by omega) (by omega) (by omega), h 129 10 (by omega) (by omega) (by omega) (by omega)]
theorem isPairT {A : gM} {c : Nat} (hc : c = 2 ∨ c = 3) : mX4_isPair A (nI c) = some (A, 1) := by
  rcases hc with rfl | rfl
  · rfl
  · rfl
theorem isPairF {A : gM} {c : Nat} (h2 : c ≠ 2) (h3 : c ≠ 3) (hb : c ≤ 2000000) : mX4_isPair A (nI c) = some (A, 0) := by
  unfold mX4_isPair mX4_isPair_b0 mX4_isPair_b15
  simp (disch := omega) only [lq2, lq3, lq4, lq5, lq6, lq7, lq8, lq9, lq10, lq11, lq40, lq59, lq60, lq61, lq100, lq500, lq2600, lq5208, lq1000000, ltT, ltF, leT, leF, eqT, eqF, lt0F, le0F, le0T, ge0T, eq0T, eq0F, eqm1F, ten0, m1lt0, eq_self, nI_add, nI_1, sub1, addm1, addm2, subn, cl0, cl1, ncl, ginT, gin0, gin1, if_true, if_false, Nat.add_sub_cancel, obe, ↓gle, true_or, or_true]
theorem seats_le {keep : Nat → Bool} : ∀ (r : Rw) (s : List Nat), (seatsOf keep s r).length ≤ s.length + r.length
  | [], s => by show s.length ≤ _; simp
  | c :: r, s => by
    rw [seats_cons]
    have h1 := seats_le (keep := keep) r s
    have h2 := seats_le (keep := keep) r (s ++ [c])
    rw [List.length_append, List.length_singleton] at h2
    rw [List.length_cons]
    by_cases h : c < 10 ∨ keep c = true
    · rw [if_pos h]; omega
    · rw [if_neg h]
      by_cases q : c ∈ s
      · rw [if_pos q]; omega
      · rw [if_neg q]; omega
theorem write_end {K : gM → Int32 → Int32 → Option (gM × Int32)} {A : gM} {len : Nat} (hl : len ≤ 60) : mX4_write_b17 K A (nI len) (nI 0) = some (A, nI len) := by
  unfold mX4_write_b17 mX4_write_b119 mX4_write_b132
  rw [if_pos (by decide), if_pos (by decide)]
theorem write_full {K : gM → Int32 → Int32 → Option (gM × Int32)} {A : gM} {len k : Nat} (hl : len ≤ 60) (hk : k ≤ 60) (h : 60 < len + (k + 1)) : mX4_write_b17 K A (nI len) (nI (k + 1)) = some (A, nI 61) := by
  unfold mX4_write_b17 mX4_write_b119 mX4_write_b132
  simp (disch := omega) only [lq2, lq3, lq4, lq5, lq6, lq7, lq8, lq9, lq10, lq11, lq40, lq59, lq60, lq61, lq100, lq500, lq2600, lq5208, lq1000000, ltT, ltF, leT, leF, eqT, eqF, lt0F, le0F, le0T, ge0T, eq0T, eq0F, eqm1F, ten0, m1lt0, eq_self, nI_add, nI_1, sub1, addm1, addm2, subn, cl0, cl1, ncl, ginT, gin0, gin1, if_true, if_false, Nat.add_sub_cancel, obe, ↓gle, true_or, or_true]
theorem write_leaf {K : gM → Int32 → Int32 → Option (gM × Int32)} {A A1 : gM} {len k n m x d : Nat} (hA : A 134 k = nI n) (hres : mX4_resolve A (nI n) = some (A, nI m)) (hco : mX4_codeOf A (nI m) = some (A1, nI x)) (hm : m < 2600) (hd : A1 130 m = nI d) (h2 : d ≠ 2) (h3 : d ≠ 3) (hb : d ≤ 3000) (h : len + (k + 1) ≤ 60) :
    mX4_write_b17 K A (nI len) (nI (k + 1)) = K (g_up A1 182 len (nI x)) (nI (len + 1)) (nI k) := by
  unfold mX4_write_b17 mX4_write_b116
  simp (disch := omega) only [lq2, lq3, lq4, lq5, lq6, lq7, lq8, lq9, lq10, lq11, lq40, lq59, lq60, lq61, lq100, lq500, lq2600, lq5208, lq1000000, ltT, ltF, leT, leF, eqT, eqF, lt0F, le0F, le0T, ge0T, eq0T, eq0F, eqm1F, ten0, m1lt0, eq_self, nI_add, nI_1, sub1, addm1, addm2, subn, cl0, cl1, ncl, ginT, gin0, gin1, if_true, if_false, Nat.add_sub_cancel, obe, ↓gle, true_or, or_true, upS, up_c, up_p, hA, hres, hco, hd, isPairF]
theorem write_pair {K : gM → Int32 → Int32 → Option (gM × Int32)} {A A1 : gM} {len k n m x d i j : Nat} (hA : A 134 k = nI n) (hres : mX4_resolve A (nI n) = some (A, nI m)) (hco : mX4_codeOf A (nI m) = some (A1, nI x)) (hm : m < 2600) (hd : A1 130 m = nI d) (h2 : d = 2 ∨ d = 3) (hi : A1 131 m = nI i) (hj : A1 132 m = nI j) (h : len + (k + 1) ≤ 60) :
    mX4_write_b17 K A (nI len) (nI (k + 1)) = K (g_up (g_up (g_up A1 182 len (nI x)) 134 k (nI j)) 134 (k + 1) (nI i)) (nI (len + 1)) (nI (k + 2)) := by
  unfold mX4_write_b17 mX4_write_b116
  simp (disch := omega) only [lq2, lq3, lq4, lq5, lq6, lq7, lq8, lq9, lq10, lq11, lq40, lq59, lq60, lq61, lq100, lq500, lq2600, lq5208, lq1000000, ltT, ltF, leT, leF, eqT, eqF, lt0F, le0F, le0T, ge0T, eq0T, eq0F, eqm1F, ten0, m1lt0, eq_self, nI_add, nI_1, sub1, addm1, addm2, subn, cl0, cl1, ncl, ginT, gin0, gin1, if_true, if_false, Nat.add_sub_cancel, obe, ↓gle, true_or, or_true, upS, up_c, up_p, hA, hres, hco, hd, hi, hj, isPairT]
def WL (u : Nat) (T : Nat → Rw) (ch : Nat → Nat) (f : Nat) : Prop := ∀ (A : gM) (s st : List Nat) (len : Nat), sT A u T ch → seat A s → stk A st → (∀ n ∈ st, n < u) → s.length ≤ len → len ≤ 60 → 60 - len < f → st.length ≤ len + 1 →
    ∃ A', mX4_write_L17 f A (nI len) (nI st.length) = some (A', nI (if len + (restOf T st).length ≤ 60 then len + (restOf T st).length else 61)) ∧ offW A A' ∧ (∀ i, i < len → A' 182 i = A 182 i) ∧
      (len + (restOf T st).length ≤ 60 → ∀ i x, (num (kp A) s (restOf T st))[i]? = some x → A' 182 (len + i) = nI x ∧ x ≤ 3000)
theorem write_fin {u : Nat} {T : Nat → Rw} {ch : Nat → Nat} {f : Nat} (ih : WL u T ch f) {A A2 : gM} {s st st' : List Nat} {len n c x : Nat} (h : sT A u T ch) (hx : x ≤ 3000) (hsl : s.length ≤ len) (hl : len < 60) (hf : 60 - len < f + 1) (hnum : num (kp A) s [c] = [x])
    (h1 : offW A A2) (h2 : A2 182 len = nI x) (h3 : ∀ i, i < len → A2 182 i = A 182 i) (h4 : seat A2 (seatsOf (kp A) s [c])) (h5 : stk A2 st') (h6 : ∀ k ∈ st', k < u) (h7 : st'.length ≤ len + 2) (h8 : restOf T (n :: st) = c :: restOf T st') :
    ∃ A', mX4_write_L17 f A2 (nI (len + 1)) (nI st'.length) = some (A', nI (if len + (restOf T (n :: st)).length ≤ 60 then len + (restOf T (n :: st)).length else 61)) ∧ offW A A' ∧ (∀ i, i < len → A' 182 i = A 182 i) ∧
      (len + (restOf T (n :: st)).length ≤ 60 → ∀ i x, (num (kp A) s (restOf T (n :: st)))[i]? = some x → A' 182 (len + i) = nI x ∧ x ≤ 3000) := by
  have hsl2 := seats_le (keep := kp A) [c] s
  rw [List.length_singleton] at hsl2
  obtain ⟨A', e, g1, g2, g3⟩ := ih A2 _ st' (len + 1) (sT_same (offW_S h1) h) h4 h5 h6 (by omega) (show len + 1 ≤ 60 by omega) (by omega) (by omega)
  have hL : len + (restOf T (n :: st)).length = len + 1 + (restOf T st').length := by rw [h8, List.length_cons]; omega
  refine ⟨A', by rw [e, hL], offW_tr h1 g1, fun i hi => by rw [g2 i (by omega), h3 i hi], fun q i y hy => ?_⟩
  rw [h8, show c :: restOf T st' = [c] ++ restOf T st' from rfl, num_app, hnum] at hy
  cases i with
  | zero =>
    have : x = y := by simpa using hy
    subst this
    exact ⟨by rw [Nat.add_zero, g2 len (by omega), h2], hx⟩
  | succ i =>
    have hy2 : (num (kp A) (seatsOf (kp A) s [c]) (restOf T st'))[i]? = some y := by simpa using hy
    have := g3 (by omega) i y (by rw [offW_kp h1]; exact hy2)
    rw [show len + (i + 1) = len + 1 + i by omega]
    exact this
theorem write_S {u : Nat} {T : Nat → Rw} {ch : Nat → Nat} {f : Nat} (ih : WL u T ch f) : WL u T ch (f + 1) := by
    intro A s st len h hs hk hb hsl hl hf htop
    have hu := h.2.2.1
    have hTy := sT_Ty h
    have hlen := restOf_len hTy hb
    show ∃ A', mX4_write_b17 (mX4_write_L17 f) A (nI len) (nI st.length) = _ ∧ _
    cases st with
    | nil =>
      refine ⟨A, ?_, offW_rfl, fun _ _ => rfl, fun _ i x hx => ?_⟩
      · rw [List.length_nil, write_end hl]
        show some (A, nI len) = some (A, nI (if len + 0 ≤ 60 then len + 0 else 61))
        rw [if_pos (by omega)]; rfl
      · simp [restOf, num] at hx
    | cons n st =>
      have ht2 : st.length ≤ len := by simpa using htop
      rw [List.length_cons] at hlen ⊢
      by_cases hfull : 60 < len + (st.length + 1)
      · have hbig : ¬ len + (restOf T (n :: st)).length ≤ 60 := by omega
        refine ⟨A, ?_, offW_rfl, fun _ _ => rfl, fun q => absurd q hbig⟩
        rw [if_neg hbig]
        exact write_full hl (by omega) hfull
      · obtain ⟨m, hm, hres, hTm, hm5⟩ := resolve_ok h (hb n List.mem_cons_self)
        obtain ⟨A1, x, c, tl, hTc, hco, hx, hnum, hseat, hfr⟩ := codeOf_ok h hs (by omega) hm hm5
        have o9 : offW A (g_up A1 182 len (nI x)) := fun a b q1 q2 q3 q4 => by rw [up_c q3, hfr a b q2 q4]
        have s9 : ∀ st' : List Nat, stk A st' → stk (g_up A1 182 len (nI x)) st' := fun st' q => stk_same (fun j _ => by rw [up_c (by omega), hfr _ _ (by omega) (by omega)]) q
        have se9 : seat (g_up A1 182 len (nI x)) (seatsOf (kp A) s [c]) := seat_same hseat (up_c (by omega)) (g_up_cell (by omega))
        have lo9 : ∀ i, i < len → g_up A1 182 len (nI x) 182 i = A 182 i := fun i hi => by rw [up_p (by omega), hfr _ _ (by omega) (by omega)]
        have hbs : ∀ k ∈ st, k < u := fun k hk2 => hb k (List.mem_cons_of_mem _ hk2)
        have leaf : ∀ d : Nat, d ≤ 3000 → d ≠ 2 → d ≠ 3 → A 130 m = nI d → T m = [c] → ∃ A', mX4_write_b17 (mX4_write_L17 f) A (nI len) (nI (st.length + 1)) = some (A', nI (if len + (restOf T (n :: st)).length ≤ 60 then len + (restOf T (n :: st)).length else 61)) ∧ offW A A' ∧ (∀ i, i < len → A' 182 i = A 182 i) ∧
            (len + (restOf T (n :: st)).length ≤ 60 → ∀ i x, (num (kp A) s (restOf T (n :: st)))[i]? = some x → A' 182 (len + i) = nI x ∧ x ≤ 3000) := by
          intro d hd h2 h3 hk9 hT
          rw [write_leaf hk.1 hres hco (by omega) (by rw [hfr _ _ (by omega) (by omega), hk9]) h2 h3 hd (by omega)]
          refine write_fin ih h hx hsl (by omega) hf hnum o9 up_s lo9 se9 (s9 st hk.2) hbs (by omega) ?_
          show T n ++ restOf T st = _
          rw [← hTm, hT]; rfl
        rcases sN_kind (h.2.2.2.1 m hm) hm5 with ⟨h2, hkk, hT⟩ | ⟨h2, hkk, hT⟩ | ⟨h2, d, i, j, hd, hi, hj, hkk, hkl, hkr, hT⟩
        · exact leaf m (by omega) (by omega) (by omega) hkk (by rw [hT] at hTc ⊢; rw [(List.cons.inj hTc).1])
        · exact leaf 4 (by omega) (by omega) (by omega) hkk (by rw [hT] at hTc ⊢; rw [(List.cons.inj hTc).1])
        · rw [write_pair hk.1 hres hco (by omega) (by rw [hfr _ _ (by omega) (by omega), hkk]) hd (by rw [hfr _ _ (by omega) (by omega), hkl]) (by rw [hfr _ _ (by omega) (by omega), hkr]) (by omega)]
          have hTn : T n = d :: (T i ++ T j) := hTm.symm.trans hT
          refine write_fin (st' := i :: j :: st) ih h hx hsl (by omega) hf hnum (fun a b q1 q2 q3 q4 => by rw [up_c q1, up_c q1]; exact o9 a b q1 q2 q3 q4) ?_ ?_ ?_ ?_ ?_ (by simp; omega) ?_
          · rw [up_c (by omega), up_c (by omega)]; exact up_s
          · intro i hi; rw [up_c (by omega), up_c (by omega)]; exact lo9 i hi
          · exact seat_same se9 (by rw [up_c (by omega), up_c (by omega)]) (by rw [g_up_cell (by omega), g_up_cell (by omega)])
          · refine ⟨up_s, ?_, ?_⟩
            · rw [up_p (by omega)]; exact up_s
            · exact stk_same (fun k hk2 => by rw [up_p (by omega), up_p (by omega)]) (s9 st hk.2)
          · intro k hk2
            rcases List.mem_cons.mp hk2 with rfl | hk2
            · exact hi
            · rcases List.mem_cons.mp hk2 with rfl | hk2
              · exact hj
              · exact hbs k hk2
          · rw [hT] at hTc
            show T n ++ restOf T st = c :: (T i ++ (T j ++ restOf T st))
            rw [hTn, (List.cons.inj hTc).1, List.cons_append, List.append_assoc]
theorem write_L {u : Nat} {T : Nat → Rw} {ch : Nat → Nat} : ∀ f, WL u T ch f
  | 0 => fun _ _ _ _ _ _ _ _ _ _ hf _ => absurd hf (Nat.not_lt_zero _)
  | f + 1 => write_S (write_L f)
theorem write_ok {A : gM} {u : Nat} {T : Nat → Rw} {ch : Nat → Nat} {n : Nat} (h : sT A u T ch) (hn : n < u) :
    ∃ A', mX4_write A (nI n) = some (A', nI (if (T n).length ≤ 60 then (T n).length else 61)) ∧ offW A A' ∧
      ((T n).length ≤ 60 → ∀ i x, (num (kp A) [] (T n))[i]? = some x → A' 182 i = nI x ∧ x ≤ 3000) := by
  have o1 : offW A (g_up (g_up A 129 8 0) 134 0 (nI n)) := fun a b q1 q2 q3 q4 => by rw [up_c q1, up_get, if_neg q4]
  obtain ⟨A', e, g1, -, g3⟩ := write_L gF _ [] [n] 0 (sT_same (offW_S o1) h) ⟨by rw [up_c (by omega), up_s]; rfl, by simp, fun i c q => by simp at q⟩ ⟨up_s, trivial⟩ (fun k hk => by rw [List.mem_singleton] at hk; omega) (by simp) (by omega) (by unfold gF; omega) (by simp)
  have hr : restOf T [n] = T n := List.append_nil _
  rw [hr, Nat.zero_add, offW_kp o1] at g3
  rw [hr, Nat.zero_add] at e
  refine ⟨A', ?_, offW_tr o1 g1, fun q i x hx => ?_⟩
  · unfold mX4_write mX4_write_b0
    simp (disch := omega) only [lq2, lq3, lq4, lq5, lq6, lq7, lq8, lq9, lq10, lq11, lq40, lq59, lq60, lq61, lq100, lq500, lq2600, lq5208, lq1000000, ltT, ltF, leT, leF, eqT, eqF, lt0F, le0F, le0T, ge0T, eq0T, eq0F, eqm1F, ten0, m1lt0, eq_self, nI_add, nI_1, sub1, addm1, addm2, subn, cl0, cl1, ncl, ginT, gin0, gin1, if_true, if_false, Nat.add_sub_cancel, obe, ↓gle, true_or, or_true]
    exact e
  · have := g3 q i x hx
    rw [Nat.zero_add] at this; exact this
