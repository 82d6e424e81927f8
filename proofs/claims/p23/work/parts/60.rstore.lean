/-! THE REFERENCE'S STORE OF TYPES -/
theorem ofN {n : Nat} : Int32.ofNat n = nI n := Eq.trans rfl rfl
def okc (cp : Nat) : Prop := cp = 500 ∨ cp = 1000 ∨ cp = 2000 ∨ cp = 4000 ∨ cp = 8000
def rN (A : gM) (u : Nat) (T : Nat → Rw) (ch : Nat → Nat) (n : Nat) : Prop :=
  (∃ c, c < 2 ∧ A 185 n = nI c ∧ T n = [c]) ∨ (A 185 n = nI 4 ∧ A 186 n = -1 ∧ T n = [10 + n]) ∨
  (A 185 n = nI 4 ∧ ∃ i, i < u ∧ A 186 n = nI i ∧ T n = T i ∧ ch i < ch n) ∨
  (∃ c i j, (c = 2 ∨ c = 3) ∧ i < u ∧ j < u ∧ A 185 n = nI c ∧ A 186 n = nI i ∧ A 187 n = nI j ∧ T n = c :: (T i ++ T j))
def rO (A : gM) (cp : Nat) : Prop := ∀ i, i < cp → A 188 i = 0 ∨ A 188 i = 1
def rG (A : gM) (u : Nat) : Nat := ((List.range u).filter fun n => decide (A 185 n = nI 4 ∧ ¬ A 186 n = -1)).length
theorem rG_le {A : gM} {u : Nat} : rG A u ≤ u := by
  have := List.length_filter_le (fun n => decide (A 185 n = nI 4 ∧ ¬ A 186 n = -1)) (List.range u)
  rw [List.length_range] at this; exact this
def rS (A : gM) (cp u : Nat) (T : Nat → Rw) (ch : Nat → Nat) : Prop := A 183 3 = nI u ∧ okc cp ∧ u ≤ cp ∧ (∀ n, n < u → rN A u T ch n) ∧ rO A cp ∧ ∀ n, n < u → ch n ≤ rG A u
theorem okc_le {cp : Nat} (h : okc cp) : 500 ≤ cp ∧ cp ≤ 8000 := by unfold okc at h; omega
/-- a node that is not a variable with a type -/
def rfr (A : gM) (n : Nat) : Prop := A 185 n = nI 4 → A 186 n = -1
theorem rN_kind {A : gM} {u : Nat} {T : Nat → Rw} {ch : Nat → Nat} {n : Nat} (hu : u ≤ 8000) (h : rN A u T ch n) (hf : rfr A n) :
    (∃ c, c < 2 ∧ A 185 n = nI c ∧ T n = [c]) ∨ (A 185 n = nI 4 ∧ A 186 n = -1 ∧ T n = [10 + n]) ∨ (∃ c i j, (c = 2 ∨ c = 3) ∧ i < u ∧ j < u ∧ A 185 n = nI c ∧ A 186 n = nI i ∧ A 187 n = nI j ∧ T n = c :: (T i ++ T j)) := by
  rcases h with h | h | ⟨h4, i, hi, hl, -⟩ | h
  · exact Or.inl h
  · exact Or.inr (Or.inl h)
  · have := hf h4
    rw [hl, eqm1F (by omega)] at this; exact absurd this id
  · exact Or.inr (Or.inr h)
/-- nodes that hold together: with each all to which it goes; its pairs are in a list -/
def reg (A : gM) (P : Nat → Prop) (S : List Nat) : Prop := ∀ n, P n → (∀ i, A 185 n = nI 4 → A 186 n = nI i → i < 8000 → P i) ∧ ∀ c i j, (c = 2 ∨ c = 3) → A 185 n = nI c → A 186 n = nI i → A 187 n = nI j → i < 8000 → j < 8000 → n ∈ S ∧ P i ∧ P j
theorem now_end {cp : Nat} {A : gM} {n f : Nat} (hn : n < cp) (hcp : cp ≤ 8000) (h : rfr A n) {d : Nat} (hd : A 185 n = nI d) (db : d ≤ 3000) : mX6_now_L2 cp (f + 1) A (nI n) = some (A, nI n) := by
  show mX6_now_b2 cp (mX6_now_L2 cp f) A (nI n) = _
  unfold mX6_now_b2 mX6_now_b32
  by_cases e : d = 4
  · subst e
    have := h hd
    simp (disch := omega) only [lq2, lq3, lq4, lq5, lq6, lq7, lq8, lq9, lq10, lq11, lq40, lq59, lq60, lq61, lq100, lq500, lq2600, lq5208, lq1000000, ltT, ltF, leT, leF, eqT, eqF, lt0F, le0F, le0T, ge0T, eq0T, eq0F, eqm1F, ten0, m1lt0, eq_self, nI_add, nI_1, sub1, addm1, addm2, subn, cl0, cl1, ncl, ginT, gin0, gin1, ↓reduceIte, if_true, if_false, Nat.add_sub_cancel, obe, ↓gle, true_or, or_true, hd, this]
  · simp (disch := omega) only [lq2, lq3, lq4, lq5, lq6, lq7, lq8, lq9, lq10, lq11, lq40, lq59, lq60, lq61, lq100, lq500, lq2600, lq5208, lq1000000, ltT, ltF, leT, leF, eqT, eqF, lt0F, le0F, le0T, ge0T, eq0T, eq0F, eqm1F, ten0, m1lt0, eq_self, nI_add, nI_1, sub1, addm1, addm2, subn, cl0, cl1, ncl, ginT, gin0, gin1, ↓reduceIte, if_true, if_false, Nat.add_sub_cancel, obe, ↓gle, true_or, or_true, hd]
theorem now_step {cp : Nat} {A : gM} {n i f : Nat} (hn : n < cp) (hcp : cp ≤ 8000) (hd : A 185 n = nI 4) (hi : A 186 n = nI i) (hib : i ≤ 8000) : mX6_now_L2 cp (f + 1) A (nI n) = mX6_now_L2 cp f A (nI i) := by
  show mX6_now_b2 cp (mX6_now_L2 cp f) A (nI n) = _
  unfold mX6_now_b2
  simp (disch := omega) only [lq2, lq3, lq4, lq5, lq6, lq7, lq8, lq9, lq10, lq11, lq40, lq59, lq60, lq61, lq100, lq500, lq2600, lq5208, lq1000000, ltT, ltF, leT, leF, eqT, eqF, lt0F, le0F, le0T, ge0T, eq0T, eq0F, eqm1F, ten0, m1lt0, eq_self, nI_add, nI_1, sub1, addm1, addm2, subn, cl0, cl1, ncl, ginT, gin0, gin1, ↓reduceIte, if_true, if_false, Nat.add_sub_cancel, obe, ↓gle, true_or, or_true, hd, hi]
theorem rN_d {A : gM} {u : Nat} {T : Nat → Rw} {ch : Nat → Nat} {n : Nat} (h : rN A u T ch n) : ∃ d, d ≤ 3000 ∧ A 185 n = nI d := by
  rcases h with ⟨c, hc, h, -⟩ | h | h | ⟨c, i, j, hc, -, -, h, -⟩
  · exact ⟨c, by omega, h⟩
  · exact ⟨4, by omega, h.1⟩
  · exact ⟨4, by omega, h.1⟩
  · exact ⟨c, by omega, h⟩
theorem now_L {A : gM} {cp u : Nat} {T : Nat → Rw} {ch : Nat → Nat} (h : rS A cp u T ch) : ∀ (f n : Nat), n < u → ch n < f → ∃ m, m < u ∧ mX6_now_L2 cp f A (nI n) = some (A, nI m) ∧ T m = T n ∧ rfr A m ∧ ∀ P S, reg A P S → P n → P m
  | 0, n, _, hf => by omega
  | f + 1, n, hn, hf => by
    have hcp := okc_le h.2.1
    have hu := h.2.2.1
    by_cases q : rfr A n
    · obtain ⟨d, db, hd⟩ := rN_d (h.2.2.2.1 n hn)
      exact ⟨n, hn, now_end (by omega) (by omega) q hd db, rfl, q, fun _ _ _ hp => hp⟩
    · rcases h.2.2.2.1 n hn with ⟨c, hc, hk, hT⟩ | ⟨hk, hl, hT⟩ | ⟨hk, i, hi, hl, hT, hc⟩ | ⟨c, i, j, hc, hi, hj, hk, hl, hr, hT⟩
      · exact absurd (fun z => by rw [hk, neq (by omega) (by omega)] at z; omega) q
      · exact absurd (fun _ => hl) q
      · obtain ⟨m, hm, e, ht, hf2, hP⟩ := now_L h f i hi (by omega)
        exact ⟨m, hm, by rw [now_step (by omega) (by omega) hk hl (by omega)]; exact e, ht.trans hT.symm, hf2, fun P S hr hp => hP P S hr ((hr n hp).1 i hk hl (by omega))⟩
      · exact absurd (fun z => by rw [hk, neq (by omega) (by omega)] at z; omega) q
theorem now_ok {A : gM} {cp u : Nat} {T : Nat → Rw} {ch : Nat → Nat} (h : rS A cp u T ch) {n : Nat} (hn : n < u) : ∃ m, m < u ∧ mX6_now cp A (nI n) = some (A, nI m) ∧ T m = T n ∧ rfr A m ∧ ∀ P S, reg A P S → P n → P m :=
  now_L h gF n hn (by have := h.2.2.2.2.2 n hn; have := rG_le (A := A) (u := u); have := okc_le h.2.1; have := h.2.2.1; unfold gF; omega)
theorem isPair6T {cp : Nat} {A : gM} {n d : Nat} (hn : n < cp) (hcp : cp ≤ 8000) (hd : A 185 n = nI d) (h : d = 2 ∨ d = 3) : mX6_isPair cp A (nI n) = some (A, 1) := by
  unfold mX6_isPair mX6_isPair_b0 mX6_isPair_b20 mX6_isPair_b25
  rcases h with rfl | rfl
  · simp (disch := omega) only [lq2, lq3, lq4, lq5, lq6, lq7, lq8, lq9, lq10, lq11, lq40, lq59, lq60, lq61, lq100, lq500, lq2600, lq5208, lq1000000, ltT, ltF, leT, leF, eqT, eqF, lt0F, le0F, le0T, ge0T, eq0T, eq0F, eqm1F, ten0, m1lt0, eq_self, nI_add, nI_1, sub1, addm1, addm2, subn, cl0, cl1, ncl, ginT, gin0, gin1, ↓reduceIte, if_true, if_false, Nat.add_sub_cancel, obe, ↓gle, true_or, or_true, hd]
  · simp (disch := omega) only [lq2, lq3, lq4, lq5, lq6, lq7, lq8, lq9, lq10, lq11, lq40, lq59, lq60, lq61, lq100, lq500, lq2600, lq5208, lq1000000, ltT, ltF, leT, leF, eqT, eqF, lt0F, le0F, le0T, ge0T, eq0T, eq0F, eqm1F, ten0, m1lt0, eq_self, nI_add, nI_1, sub1, addm1, addm2, subn, cl0, cl1, ncl, ginT, gin0, gin1, ↓reduceIte, if_true, if_false, Nat.add_sub_cancel, obe, ↓gle, true_or, or_true, hd]
theorem isPair6F {cp : Nat} {A : gM} {n d : Nat} (hn : n < cp) (hcp : cp ≤ 8000) (hd : A 185 n = nI d) (h2 : d ≠ 2) (h3 : d ≠ 3) (db : d ≤ 3000) : mX6_isPair cp A (nI n) = some (A, 0) := by
  unfold mX6_isPair mX6_isPair_b0 mX6_isPair_b25
  simp (disch := omega) only [lq2, lq3, lq4, lq5, lq6, lq7, lq8, lq9, lq10, lq11, lq40, lq59, lq60, lq61, lq100, lq500, lq2600, lq5208, lq1000000, ltT, ltF, leT, leF, eqT, eqF, lt0F, le0F, le0T, ge0T, eq0T, eq0F, eqm1F, ten0, m1lt0, eq_self, nI_add, nI_1, sub1, addm1, addm2, subn, cl0, cl1, ncl, ginT, gin0, gin1, ↓reduceIte, if_true, if_false, Nat.add_sub_cancel, obe, ↓gle, true_or, or_true, hd]
theorem rS_ind {A : gM} {cp u : Nat} {T : Nat → Rw} {ch : Nat → Nat} (h : rS A cp u T ch) {P : Nat → Prop}
    (low : ∀ n c, n < u → c < 2 → A 185 n = nI c → T n = [c] → P n) (var : ∀ n, n < u → A 185 n = nI 4 → A 186 n = -1 → T n = [10 + n] → P n)
    (giv : ∀ n i, n < u → i < u → A 185 n = nI 4 → A 186 n = nI i → T n = T i → P i → P n)
    (pair : ∀ n c i j, n < u → i < u → j < u → (c = 2 ∨ c = 3) → A 185 n = nI c → A 186 n = nI i → A 187 n = nI j → T n = c :: (T i ++ T j) → P i → P j → P n) : ∀ n, n < u → P n := by
  have main : ∀ (L k n : Nat), n < u → (T n).length ≤ L → ch n < k → P n := by
    intro L
    induction L with
    | zero =>
      intro k
      induction k with
      | zero => intro n _ _ h3; omega
      | succ k ih =>
        intro n hn hl hk
        rcases h.2.2.2.1 n hn with ⟨c, q⟩ | q | ⟨q4, i, hi, ql, hT, hc⟩ | ⟨c, i, j, hc, hi, hj, q1, q2, q3, hT⟩
        · exact low n c hn q.1 q.2.1 q.2.2
        · exact var n hn q.1 q.2.1 q.2.2
        · exact giv n i hn hi q4 ql hT (ih i hi (by rw [← hT]; exact hl) (by omega))
        · rw [hT] at hl; simp at hl
    | succ L ihL =>
      intro k
      induction k with
      | zero => intro n _ _ h3; omega
      | succ k ih =>
        intro n hn hl hk
        rcases h.2.2.2.1 n hn with ⟨c, q⟩ | q | ⟨q4, i, hi, ql, hT, hc⟩ | ⟨c, i, j, hc, hi, hj, q1, q2, q3, hT⟩
        · exact low n c hn q.1 q.2.1 q.2.2
        · exact var n hn q.1 q.2.1 q.2.2
        · exact giv n i hn hi q4 ql hT (ih i hi (by rw [← hT]; exact hl) (by omega))
        · rw [hT] at hl
          have hl2 : (T i).length + (T j).length ≤ L := by simpa using hl
          exact pair n c i j hn hi hj hc q1 q2 q3 hT (ihL (ch i + 1) i hi (by omega) (by omega)) (ihL (ch j + 1) j hj (by omega) (by omega))
  intro n hn
  exact main (T n).length (ch n + 1) n hn (Nat.le_refl _) (by omega)
theorem rS_Ty {A : gM} {cp u : Nat} {T : Nat → Rw} {ch : Nat → Nat} (h : rS A cp u T ch) : ∀ n, n < u → Ty (T n) := by
  refine rS_ind h (fun n c hn hc _ e => ?_) (fun n _ _ _ e => ?_) (fun n i _ _ _ _ e p => ?_) (fun n c i j _ _ _ hc _ _ _ e p1 p2 => ?_)
  · rw [e]; exact Ty_leaf (if_neg (by omega))
  · rw [e]; exact Ty_leaf (if_neg (by omega))
  · rw [e]; exact p
  · rw [e]; exact Ty_pair (if_pos hc) p1 p2
theorem rS_code {A : gM} {cp u : Nat} {T : Nat → Rw} {ch : Nat → Nat} (h : rS A cp u T ch) : ∀ n, n < u → ∀ x ∈ T n, x ≤ 3 ∨ ∃ v, v < u ∧ x = 10 + v ∧ A 185 v = nI 4 ∧ A 186 v = -1 ∧ T v = [10 + v] := by
  refine rS_ind h (fun n c hn hc _ e => ?_) (fun n hn h4 h6 e => ?_) (fun n i _ _ _ _ e p => ?_) (fun n c i j _ _ _ hc _ _ _ e p1 p2 => ?_)
  · rw [e]; intro x hx; rw [List.mem_singleton] at hx; left; omega
  · rw [e]; intro x hx; rw [List.mem_singleton] at hx; exact Or.inr ⟨n, hn, hx, h4, h6, e⟩
  · rw [e]; exact p
  · rw [e]; intro x hx
    rcases List.mem_cons.mp hx with hx | hx
    · left; omega
    · rcases List.mem_append.mp hx with hx | hx
      · exact p1 x hx
      · exact p2 x hx
/-- what is reached from a node: no more pairs than its row has codes -/
theorem reach_ok {A : gM} {cp u : Nat} {T : Nat → Rw} {ch : Nat → Nat} (h : rS A cp u T ch) : ∀ n, n < u → ∃ (P : Nat → Prop) (S : List Nat), P n ∧ reg A P S ∧ 2 * S.length + 1 ≤ (T n).length ∧ ∀ m, P m → m < u := by
  have hu := h.2.2.1
  have hcp := okc_le h.2.1
  refine rS_ind h (fun n c hn hc hk e => ?_) (fun n hn h4 h6 e => ?_) (fun n i hn hi h4 h6 e p => ?_) (fun n c i j hn hi hj hc q1 q2 q3 e p1 p2 => ?_)
  · refine ⟨fun m => m = n, [], rfl, fun m hm => ?_, by rw [e]; simp, fun m hm => by rw [hm]; exact hn⟩
    subst hm
    exact ⟨fun i z => by rw [hk, neq (by omega) (by omega)] at z; omega, fun c' i j hc' z => by rw [hk, neq (by omega) (by omega)] at z; omega⟩
  · refine ⟨fun m => m = n, [], rfl, fun m hm => ?_, by rw [e]; simp, fun m hm => by rw [hm]; exact hn⟩
    subst hm
    exact ⟨fun i _ z hi => by rw [h6] at z; exact absurd z.symm (by rw [eqm1F (by omega)]; exact id), fun c' i j hc' z => by rw [h4, neq (by omega) (by omega)] at z; omega⟩
  · obtain ⟨P, S, a1, a2, a3, a4⟩ := p
    refine ⟨fun m => m = n ∨ P m, S, Or.inl rfl, fun m hm => ?_, by rw [e]; exact a3, fun m hm => by rcases hm with rfl | hm; exact hn; exact a4 m hm⟩
    rcases hm with rfl | hm
    · refine ⟨fun i' _ z hi' => ?_, fun c' i j hc' z => by rw [h4, neq (by omega) (by omega)] at z; omega⟩
      rw [h6, neq (by omega) (by omega)] at z; subst z; exact Or.inr a1
    · exact ⟨fun i' z1 z2 z3 => Or.inr ((a2 m hm).1 i' z1 z2 z3), fun c' i' j' z1 z2 z3 z4 z5 z6 => ⟨((a2 m hm).2 c' i' j' z1 z2 z3 z4 z5 z6).1, Or.inr ((a2 m hm).2 c' i' j' z1 z2 z3 z4 z5 z6).2.1, Or.inr ((a2 m hm).2 c' i' j' z1 z2 z3 z4 z5 z6).2.2⟩⟩
  · obtain ⟨P, S, a1, a2, a3, a4⟩ := p1
    obtain ⟨P', S', b1, b2, b3, b4⟩ := p2
    refine ⟨fun m => m = n ∨ P m ∨ P' m, n :: (S ++ S'), Or.inl rfl, fun m hm => ?_, by rw [e]; simp only [List.length_cons, List.length_append]; omega, fun m hm => by rcases hm with rfl | hm | hm; exact hn; exact a4 m hm; exact b4 m hm⟩
    rcases hm with rfl | hm | hm
    · refine ⟨fun i z => by rw [q1, neq (by omega) (by omega)] at z; omega, fun c' i' j' hc' _ z1 z2 z3 z4 => ?_⟩
      rw [q2, neq (by omega) (by omega)] at z1
      rw [q3, neq (by omega) (by omega)] at z2
      subst z1; subst z2
      exact ⟨List.mem_cons_self, Or.inr (Or.inl a1), Or.inr (Or.inr b1)⟩
    · exact ⟨fun i' z1 z2 z3 => Or.inr (Or.inl ((a2 m hm).1 i' z1 z2 z3)), fun c' i' j' z1 z2 z3 z4 z5 z6 => ⟨List.mem_cons_of_mem _ (List.mem_append.mpr (Or.inl ((a2 m hm).2 c' i' j' z1 z2 z3 z4 z5 z6).1)), Or.inr (Or.inl ((a2 m hm).2 c' i' j' z1 z2 z3 z4 z5 z6).2.1), Or.inr (Or.inl ((a2 m hm).2 c' i' j' z1 z2 z3 z4 z5 z6).2.2)⟩⟩
    · exact ⟨fun i' z1 z2 z3 => Or.inr (Or.inr ((b2 m hm).1 i' z1 z2 z3)), fun c' i' j' z1 z2 z3 z4 z5 z6 => ⟨List.mem_cons_of_mem _ (List.mem_append.mpr (Or.inr ((b2 m hm).2 c' i' j' z1 z2 z3 z4 z5 z6).1)), Or.inr (Or.inr ((b2 m hm).2 c' i' j' z1 z2 z3 z4 z5 z6).2.1), Or.inr (Or.inr ((b2 m hm).2 c' i' j' z1 z2 z3 z4 z5 z6).2.2)⟩⟩
