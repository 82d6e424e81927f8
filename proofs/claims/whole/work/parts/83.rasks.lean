/-! THE REFERENCE WRITES A ROW -/
section W6
variable {cp N L : Nat} {A A1 A2 : gM} {n m v i j d a : Nat} {rec : gM → Int32 → Nat → Nat → Int32 → Nat → Nat → Option (gM × Int32)}
theorem w6_low (hn : mX6_now cp A (nI n) = some (A, nI m)) (hp : mX6_isPair cp A (nI m) = some (A, 0)) (hm : m < cp) (hcp : cp ≤ 8000) (hd : A 185 m = nI d) (h4 : d ≠ 4) (db : d ≤ 3000) (ha : a < L) (hL : L ≤ 60) (hN : 193 ≤ N) : mX6_write_b0 cp rec A (nI n) N L (nI a) (N + 1) 61 = some (g_up A N a (nI d), nI (a + 1)) := by
  unfold mX6_write_b0 mX6_write_b122
  simp (disch := omega) only [lq2, lq3, lq4, lq5, lq6, lq7, lq8, lq9, lq10, lq11, lq40, lq59, lq60, lq61, lq100, lq500, lq2600, lq5208, lq1000000, ltT, ltF, leT, leF, eqT, eqF, lt0F, le0F, le0T, ge0T, eq0T, eq0F, eqm1F, ten0, m1lt0, eq_self, nI_add, nI_1, sub1, addm1, addm2, subn, cl0, cl1, ncl, ginT, gin0, gin1, ↓reduceIte, if_true, if_false, Nat.add_sub_cancel, obe, ↓gle, true_or, or_true, upS, up_c, up_p, ↓(bnd hn), ↓(bnd hp), hd]
theorem w6_var (hn : mX6_now cp A (nI n) = some (A, nI m)) (hp : mX6_isPair cp A (nI m) = some (A, 0)) (hm : m < cp) (hcp : cp ≤ 8000) (hd : A 185 m = nI 4) (ha : a < L) (hL : L ≤ 60) (hN : 193 ≤ N) : mX6_write_b0 cp rec A (nI n) N L (nI a) (N + 1) 61 = mX6_write_L82 cp rec gF (g_up A N a (nI 4)) N L (nI a) (N + 1) 61 (nI m) 0 := by
  unfold mX6_write_b0
  simp (disch := omega) only [lq2, lq3, lq4, lq5, lq6, lq7, lq8, lq9, lq10, lq11, lq40, lq59, lq60, lq61, lq100, lq500, lq2600, lq5208, lq1000000, ltT, ltF, leT, leF, eqT, eqF, lt0F, le0F, le0T, ge0T, eq0T, eq0F, eqm1F, ten0, m1lt0, eq_self, nI_add, nI_1, sub1, addm1, addm2, subn, cl0, cl1, ncl, ginT, gin0, gin1, ↓reduceIte, if_true, if_false, Nat.add_sub_cancel, obe, ↓gle, true_or, or_true, upS, up_c, up_p, ↓(bnd hn), ↓(bnd hp), hd]
theorem w6_pair (hn : mX6_now cp A (nI n) = some (A, nI m)) (hp : mX6_isPair cp A (nI m) = some (A, 1)) (hm : m < cp) (hcp : cp ≤ 8000) (hd : A 185 m = nI d) (ha : a < L) (hL : L ≤ 60) (hN : 193 ≤ N) (hi : A 186 m = nI i) (hj : A 187 m = nI j) {a1 : Nat} {r : Int32} (h1 : rec (g_up A N a (nI d)) (nI i) N L (nI (a + 1)) (N + 1) 61 = some (A1, nI a1)) (h2 : rec A1 (nI j) N L (nI a1) (N + 1) 61 = some (A2, r)) : mX6_write_b0 cp rec A (nI n) N L (nI a) (N + 1) 61 = some (A2, r) := by
  unfold mX6_write_b0
  simp (disch := omega) only [lq2, lq3, lq4, lq5, lq6, lq7, lq8, lq9, lq10, lq11, lq40, lq59, lq60, lq61, lq100, lq500, lq2600, lq5208, lq1000000, ltT, ltF, leT, leF, eqT, eqF, lt0F, le0F, le0T, ge0T, eq0T, eq0F, eqm1F, ten0, m1lt0, eq_self, nI_add, nI_1, sub1, addm1, addm2, subn, cl0, cl1, ncl, ginT, gin0, gin1, ↓reduceIte, if_true, if_false, Nat.add_sub_cancel, obe, ↓gle, true_or, or_true, upS, up_c, up_p, ↓(bnd hn), ↓(bnd hp), hd, hi, hj, h1, h2]
theorem w6_107 (ha : a < L) (hL : L ≤ 60) {x : Nat} (hx : x < 61) : mX6_write_b107 cp rec A N L (nI a) (N + 1) 61 (nI m) (nI x) = some (g_up (g_up A (N + 1) x (nI m)) N a (nI (10 + x)), nI (a + 1)) := by
  unfold mX6_write_b107 mX6_write_b122
  simp (disch := omega) only [lq2, lq3, lq4, lq5, lq6, lq7, lq8, lq9, lq10, lq11, lq40, lq59, lq60, lq61, lq100, lq500, lq2600, lq5208, lq1000000, ltT, ltF, leT, leF, eqT, eqF, lt0F, le0F, le0T, ge0T, eq0T, eq0F, eqm1F, ten0, m1lt0, eq_self, nI_add, nI_1, sub1, addm1, addm2, subn, cl0, cl1, ncl, ginT, gin0, gin1, ↓reduceIte, if_true, if_false, Nat.add_sub_cancel, obe, ↓gle, true_or, or_true]
theorem w6_hit {K : gM → Nat → Nat → Int32 → Nat → Nat → Int32 → Int32 → Option (gM × Int32)} (ha : a < L) (hL : L ≤ 60) {x : Nat} (hx : x < 61) (h : A (N + 1) x = nI m) : mX6_write_b82 cp rec K A N L (nI a) (N + 1) 61 (nI m) (nI x) = some (g_up (g_up A (N + 1) x (nI m)) N a (nI (10 + x)), nI (a + 1)) := by
  unfold mX6_write_b82
  simp (disch := omega) only [lq2, lq3, lq4, lq5, lq6, lq7, lq8, lq9, lq10, lq11, lq40, lq59, lq60, lq61, lq100, lq500, lq2600, lq5208, lq1000000, ltT, ltF, leT, leF, eqT, eqF, lt0F, le0F, le0T, ge0T, eq0T, eq0F, eqm1F, ten0, m1lt0, eq_self, nI_add, nI_1, sub1, addm1, addm2, subn, cl0, cl1, ncl, ginT, gin0, gin1, ↓reduceIte, if_true, if_false, Nat.add_sub_cancel, obe, ↓gle, true_or, or_true, h]
  exact w6_107 ha hL hx
theorem w6_new {K : gM → Nat → Nat → Int32 → Nat → Nat → Int32 → Int32 → Option (gM × Int32)} (ha : a < L) (hL : L ≤ 60) {x : Nat} (hx : x < 61) (hm : m ≤ 8000) (h : A (N + 1) x = -1) : mX6_write_b82 cp rec K A N L (nI a) (N + 1) 61 (nI m) (nI x) = some (g_up (g_up A (N + 1) x (nI m)) N a (nI (10 + x)), nI (a + 1)) := by
  unfold mX6_write_b82
  rw [ginT hx (by omega), if_pos rfl, ncl (by omega), h, if_neg (fun q => by have := eqm1F (a := m) (by omega); rw [← q] at this; exact absurd rfl (of_eq_false this)), if_pos rfl, if_pos rfl]
  exact w6_107 ha hL hx
theorem w6_go {K : gM → Nat → Nat → Int32 → Nat → Nat → Int32 → Int32 → Option (gM × Int32)} {x w : Nat} (hx : x < 61) (hm : m ≤ 8000) (hw : w ≤ 8000) (h : A (N + 1) x = nI w) (hne : w ≠ m) : mX6_write_b82 cp rec K A N L (nI a) (N + 1) 61 (nI m) (nI x) = K A N L (nI a) (N + 1) 61 (nI m) (nI (x + 1)) := by
  unfold mX6_write_b82
  simp (disch := omega) only [lq2, lq3, lq4, lq5, lq6, lq7, lq8, lq9, lq10, lq11, lq40, lq59, lq60, lq61, lq100, lq500, lq2600, lq5208, lq1000000, ltT, ltF, leT, leF, eqT, eqF, lt0F, le0F, le0T, ge0T, eq0T, eq0F, eqm1F, ten0, m1lt0, eq_self, nI_add, nI_1, sub1, addm1, addm2, subn, cl0, cl1, ncl, ginT, gin0, gin1, ↓reduceIte, if_true, if_false, Nat.add_sub_cancel, obe, ↓gle, true_or, or_true, h, eqm1F]
end W6
def seat6 (A : gM) (N : Nat) (s : List Nat) : Prop := s.length ≤ 60 ∧ (∀ i c, s[i]? = some c → ∃ v, c = 10 + v ∧ v ≤ 8000 ∧ A (N + 1) i = nI v) ∧ ∀ i, s.length ≤ i → i < 61 → A (N + 1) i = -1
theorem w6_L {cp N L a m : Nat} {A : gM} {s : List Nat} {rec : gM → Int32 → Nat → Nat → Int32 → Nat → Nat → Option (gM × Int32)} (hs : seat6 A N s) (ha : a < L) (hL : L ≤ 60) (hm : m ≤ 8000) : ∀ f x, x ≤ s.length → s.length - x < f → (∀ j, j < x → s[j]? ≠ some (10 + m)) →
    mX6_write_L82 cp rec f A N L (nI a) (N + 1) 61 (nI m) (nI x) = some (g_up (g_up A (N + 1) (if 10 + m ∈ s then s.idxOf (10 + m) else s.length) (nI m)) N a (nI (10 + (if 10 + m ∈ s then s.idxOf (10 + m) else s.length))), nI (a + 1))
  | 0, x, _, hf, _ => by omega
  | f + 1, x, hx, hf, hn => by
    have hl := hs.1
    show mX6_write_b82 cp rec (mX6_write_L82 cp rec f) A N L (nI a) (N + 1) 61 (nI m) (nI x) = _
    by_cases e : x = s.length
    · have : 10 + m ∉ s := by
        intro hmm
        obtain ⟨j, hj⟩ := List.mem_iff_getElem?.mp hmm
        have : j < s.length := (List.getElem?_eq_some_iff.mp hj).1
        exact hn j (by omega) hj
      rw [if_neg this, w6_new ha hL (by omega) hm (hs.2.2 x (by omega) (by omega)), e]
    · have hg : s[x]? = some s[x] := List.getElem?_eq_getElem (by omega)
      obtain ⟨w, hw1, hw2, hw3⟩ := hs.2.1 x _ hg
      by_cases q : w = m
      · subst q
        rw [hw1] at hg
        rw [w6_hit ha hL (by omega) hw3, if_pos (List.mem_iff_getElem?.mpr ⟨x, hg⟩), ix_of s x _ hg hn]
      · rw [w6_go (by omega) hm hw2 hw3 q]
        refine w6_L hs ha hL hm f (x + 1) (by omega) (by omega) fun j hj => ?_
        by_cases ej : j = x
        · subst ej; rw [hg, hw1]; intro z; have := Option.some.inj z; omega
        · exact hn j (by omega)
def offNN (N : Nat) (A A' : gM) : Prop := ∀ a x, a ≠ N → a ≠ N + 1 → A' a x = A a x
theorem rS_NN {A A' : gM} {N cp u : Nat} {T : Nat → Rw} {ch : Nat → Nat} (hN : 193 ≤ N) (o : offNN N A A') (h : rS A cp u T ch) : rS A' cp u T ch := by
  have c : ∀ a, a < 193 → A' a = A a := fun a q => funext fun x => o a x (by omega) (by omega)
  refine ⟨by rw [c 183 (by omega)]; exact h.1, h.2.1, h.2.2.1, fun n hn => ?_, fun i hi => by rw [c 188 (by omega)]; exact h.2.2.2.2.1 i hi, fun n hn => ?_⟩
  · have := h.2.2.2.1 n hn
    unfold rN at this ⊢
    rw [c 185 (by omega), c 186 (by omega), c 187 (by omega)]; exact this
  · have := h.2.2.2.2.2 n hn
    unfold rG at this ⊢
    rw [c 185 (by omega), c 186 (by omega)]; exact this
theorem reg_NN {A A' : gM} {N : Nat} {P : Nat → Prop} {S : List Nat} (hN : 193 ≤ N) (o : offNN N A A') (h : reg A P S) : reg A' P S := by
  have c : ∀ a, a < 193 → A' a = A a := fun a q => funext fun x => o a x (by omega) (by omega)
  unfold reg at h ⊢
  rw [c 185 (by omega), c 186 (by omega), c 187 (by omega)]; exact h
theorem num0_app {a b : Rw} {s : List Nat} : num (fun _ => false) s (a ++ b) = num (fun _ => false) s a ++ num (fun _ => false) (seatsOf (fun _ => false) s a) b := num_app
theorem seats_app {keep : Nat → Bool} : ∀ {a b : Rw} {s : List Nat}, seatsOf keep s (a ++ b) = seatsOf keep (seatsOf keep s a) b
  | [], b, s => rfl
  | c :: a, b, s => by
    rw [List.cons_append, seats_cons, seats_cons]
    by_cases h : c < 10 ∨ keep c = true
    · rw [if_pos h, if_pos h, seats_app]
    · rw [if_neg h, if_neg h]
      by_cases q : c ∈ s
      · rw [if_pos q, if_pos q, seats_app]
      · rw [if_neg q, if_neg q, seats_app]
section WR
variable {cp u N L : Nat} {T : Nat → Rw} {ch : Nat → Nat} {P : Nat → Prop} {S : List Nat}
theorem write6_ok (hN : 193 ≤ N) (hL : L ≤ 60) (hP : ∀ n, P n → n < u) : ∀ (f : Nat) (A : gM) (n d a : Nat) (s : List Nat), rS A cp u T ch → reg A P S → P n → abv T (fun k => k ∈ S) n d → S.length < f + d → seat6 A N s → s.length ≤ a → a + (T n).length ≤ L →
    ∃ A', mX6_write cp f A (nI n) N L (nI a) (N + 1) 61 = some (A', nI (a + (T n).length)) ∧ offNN N A A' ∧ seat6 A' N (seatsOf (fun _ => false) s (T n)) ∧ (∀ i, i < a → A' N i = A N i) ∧ ∀ i x, (num (fun _ => false) s (T n))[i]? = some x → A' N (a + i) = nI x
  | 0, A, n, d, a, s, _, _, _, ha, hf, _, _, _ => by have := abv_le ha S fun k hk => hk; omega
  | f + 1, A, n, d, a, s, h, hr, hn, ha, hf, hs, hsa, hal => by
    have hu := h.2.2.1
    have hcp := okc_le h.2.1
    obtain ⟨m, e, hm, hPm, eb, hk, hnow, hT, hfm, hcase⟩ := now_kind h hr hP hn
    show ∃ A', mX6_write_b0 cp (mX6_write cp f) A (nI n) N L (nI a) (N + 1) 61 = some (A', _) ∧ _
    rw [← hT] at hal ⊢
    rcases hcase with ⟨h2, hTm⟩ | ⟨rfl, hl, hTm⟩ | ⟨h2, i, j, hPi, hPj, hi, hj, hmS, hl, hr2, hTm⟩
    · rw [hTm] at hal ⊢
      simp only [List.length_singleton] at hal ⊢
      refine ⟨_, w6_low hnow (isPair6F (by omega) (by omega) hk (by omega) (by omega) (by omega)) (by omega) (by omega) hk (by omega) eb (by omega) hL hN, fun b x q1 _ => up_c q1, ?_, fun i hi => up_p (by omega), fun i x hx => ?_⟩
      · rw [seats_cons, if_pos (Or.inl (by omega))]
        exact ⟨hs.1, fun i c hc => by rw [up_c (by omega)]; exact hs.2.1 i c hc, fun i h1 h2 => by rw [up_c (by omega)]; exact hs.2.2 i h1 h2⟩
      · rw [num_cons, if_pos (Or.inl (by omega))] at hx
        cases i with
        | zero =>
          have : e = x := by simpa using hx
          subst this; rw [Nat.add_zero, up_s]
        | succ i => simp [num] at hx
    · rw [hTm] at hal ⊢
      simp only [List.length_singleton] at hal ⊢
      have hs1 : seat6 (g_up A N a (nI 4)) N s := ⟨hs.1, fun i c hc => by rw [up_c (by omega)]; exact hs.2.1 i c hc, fun i h1 h2 => by rw [up_c (by omega)]; exact hs.2.2 i h1 h2⟩
      have hw := w6_L (cp := cp) (rec := mX6_write cp f) (a := a) (L := L) (m := m) hs1 (by omega) hL (by omega) gF 0 (by omega) (by have := hs.1; unfold gF; omega) (fun j hj => by omega)
      rw [nI0] at hw
      have nk : ¬ (10 + m < 10 ∨ (false : Bool) = true) := by simp
      refine ⟨_, by rw [w6_var hnow (isPair6F (by omega) (by omega) hk (by omega) (by omega) (by omega)) (by omega) (by omega) hk (by omega) hL hN]; exact hw, fun b x q1 q2 => by rw [up_c q1, up_c q2, up_c q1], ?_, fun i hi => by rw [up_p (by omega), up_c (by omega), up_p (by omega)], fun i x hx => ?_⟩
      · rw [seats_cons, if_neg nk]
        by_cases q : 10 + m ∈ s
        · rw [if_pos q, if_pos q]
          have hix := List.idxOf_lt_length_of_mem q
          refine ⟨hs.1, fun i c hc => ?_, fun i h1 h2 => by rw [up_c (by omega), up_p (by show i ≠ s.idxOf (10 + m); have : s.length ≤ i := h1; omega), up_c (by omega)]; exact hs.2.2 i h1 h2⟩
          have hc' : s[i]? = some c := hc
          obtain ⟨v, v1, v2, v3⟩ := hs.2.1 i c hc'
          refine ⟨v, v1, v2, ?_⟩
          rw [up_c (by omega)]
          by_cases z : i = s.idxOf (10 + m)
          · rw [z, up_s]
            have hg : s[s.idxOf (10 + m)]? = some (10 + m) := by
              have := getD_ix q
              rw [List.getD_eq_getElem?_getD, List.getElem?_eq_getElem hix] at this
              rw [List.getElem?_eq_getElem hix]
              exact congrArg some this
            rw [z, hg] at hc'
            have := Option.some.inj hc'
            rw [show m = v by omega]
          · rw [up_p z, up_c (by omega)]; exact v3
        · rw [if_neg q, if_neg q]
          refine ⟨?_, fun i c hc => ?_, fun i h1 h2 => ?_⟩
          · show (s ++ [10 + m]).length ≤ 60
            rw [List.length_append, List.length_singleton]; omega
          · have hc' : (s ++ [10 + m])[i]? = some c := hc
            rw [up_c (by omega)]
            by_cases z : i < s.length
            · rw [List.getElem?_append_left z] at hc'
              obtain ⟨v, v1, v2, v3⟩ := hs.2.1 i c hc'
              exact ⟨v, v1, v2, by rw [up_p (by omega), up_c (by omega)]; exact v3⟩
            · have hi : i < (s ++ [10 + m]).length := (List.getElem?_eq_some_iff.mp hc').1
              rw [List.length_append, List.length_singleton] at hi
              have : i = s.length := by omega
              subst this
              rw [List.getElem?_append_right (Nat.le_refl _), Nat.sub_self] at hc'
              have : 10 + m = c := by simpa using hc'
              exact ⟨m, this.symm, by omega, up_s⟩
          · have h1' : (s ++ [10 + m]).length ≤ i := h1
            rw [List.length_append, List.length_singleton] at h1'
            rw [up_c (by omega), up_p (by omega), up_c (by omega)]; exact hs.2.2 i (by omega) h2
      · rw [num_cons, if_neg nk] at hx
        by_cases q : 10 + m ∈ s
        · rw [if_pos q] at hx ⊢
          cases i with
          | zero =>
            have : 10 + s.idxOf (10 + m) = x := by simpa using hx
            rw [show a + 0 = a from rfl, up_s, this]
          | succ i => simp [num] at hx
        · rw [if_neg q] at hx ⊢
          cases i with
          | zero =>
            have : 10 + s.length = x := by simpa using hx
            rw [show a + 0 = a from rfl, up_s, this]
          | succ i => simp [num] at hx
    · have lT : (T m).length = 1 + ((T i).length + (T j).length) := by rw [hTm]; simp; omega
      have hs1 : seat6 (g_up A N a (nI e)) N s := ⟨hs.1, fun i c hc => by rw [up_c (by omega)]; exact hs.2.1 i c hc, fun i h1 h2 => by rw [up_c (by omega)]; exact hs.2.2 i h1 h2⟩
      have o0 : offNN N A (g_up A N a (nI e)) := fun b x q1 _ => up_c q1
      obtain ⟨A1, e1, o1, s1, k1, v1⟩ := write6_ok hN hL hP f (g_up A N a (nI e)) i (d + 1) (a + 1) s (rS_NN hN o0 h) (reg_NN hN o0 hr) hPi (abv_down (x := [e]) ha hmS hT.symm (by simp) (by rw [hTm]; rfl)) (by omega) hs1 (by omega) (by omega)
      have hsl := seats_le (keep := fun _ => false) (T i) s
      have o01 : offNN N A A1 := fun b x q1 q2 => by rw [o1 b x q1 q2, o0 b x q1 q2]
      obtain ⟨A2, e2, o2, s2, k2, v2⟩ := write6_ok hN hL hP f A1 j (d + 1) (a + 1 + (T i).length) _ (rS_NN hN o01 h) (reg_NN hN o01 hr) hPj (abv_down (x := e :: T i) (y := []) ha hmS hT.symm (by simp) (by rw [hTm]; simp)) (by omega) s1 (by omega) (by omega)
      refine ⟨A2, ?_, fun b x q1 q2 => by rw [o2 b x q1 q2, o01 b x q1 q2], ?_, fun q hq => by rw [k2 q (by omega), k1 q (by omega), up_p (by omega)], fun q x hx => ?_⟩
      · rw [lT, show a + (1 + ((T i).length + (T j).length)) = a + 1 + (T i).length + (T j).length by omega]
        exact w6_pair hnow (isPair6T (by omega) (by omega) hk h2) (by omega) (by omega) hk (by omega) hL hN hl hr2 e1 e2
      · rw [hTm, seats_cons, if_pos (Or.inl (by omega)), seats_app]; exact s2
      · rw [hTm, num_cons, if_pos (Or.inl (by omega)), num_app] at hx
        cases q with
        | zero =>
          have : e = x := by simpa using hx
          subst this
          rw [Nat.add_zero, k2 a (by omega), k1 a (by omega), up_s]
        | succ q =>
          have hx' : (num (fun _ => false) s (T i) ++ num (fun _ => false) (seatsOf (fun _ => false) s (T i)) (T j))[q]? = some x := by simpa using hx
          by_cases z : q < (T i).length
          · rw [List.getElem?_append_left (by rw [num_len]; exact z)] at hx'
            have := v1 q x hx'
            rw [show a + (q + 1) = a + 1 + q by omega, k2 (a + 1 + q) (by omega)]; exact this
          · rw [List.getElem?_append_right (by rw [num_len]; omega), num_len] at hx'
            have := v2 (q - (T i).length) x hx'
            rw [show a + (q + 1) = a + 1 + (T i).length + (q - (T i).length) by omega]; exact this
theorem deep_leaf {rec : gM → Int32 → Option (gM × Int32)} {A : gM} {n m : Nat} (hn : mX6_now cp A (nI n) = some (A, nI m)) (hp : mX6_isPair cp A (nI m) = some (A, 0)) : mX6_deep_b0 cp rec A (nI n) = some (A, nI 1) := by
  unfold mX6_deep_b0 mX6_deep_b43
  simp (disch := omega) only [lq2, lq3, lq4, lq5, lq6, lq7, lq8, lq9, lq10, lq11, lq40, lq59, lq60, lq61, lq100, lq500, lq2600, lq5208, lq1000000, ltT, ltF, leT, leF, eqT, eqF, lt0F, le0F, le0T, ge0T, eq0T, eq0F, eqm1F, ten0, m1lt0, eq_self, nI_add, nI_1, sub1, addm1, addm2, subn, cl0, cl1, ncl, ginT, gin0, gin1, ↓reduceIte, if_true, if_false, Nat.add_sub_cancel, obe, ↓gle, true_or, or_true, ↓(bnd hn), ↓(bnd hp)]
  rw [one_nI]
theorem deep_pair {rec : gM → Int32 → Option (gM × Int32)} {A : gM} {n m i j x y : Nat} (hn : mX6_now cp A (nI n) = some (A, nI m)) (hp : mX6_isPair cp A (nI m) = some (A, 1)) (hm : m < cp) (hcp : cp ≤ 8000) (hi : A 186 m = nI i) (hj : A 187 m = nI j) (h1 : rec A (nI i) = some (A, nI x)) (h2 : rec A (nI j) = some (A, nI y)) (hx : x ≤ 1000) (hy : y ≤ 1000) : mX6_deep_b0 cp rec A (nI n) = some (A, nI (1 + max x y)) := by
  have e2 := max_n hx hy
  have e3 : (1 : Int32) + nI (max x y) = nI (1 + max x y) := by rw [one_nI, nI_add]
  unfold mX6_deep_b0 mX6_deep_b43
  rw [bnd hn, bnd hp]
  dsimp only
  rw [if_neg (by decide), ginT hm (by omega), if_pos rfl, ncl (by omega), hi, bnd h1, if_pos rfl]
  dsimp only
  rw [hj, bnd h2]
  dsimp only
  rw [e2, e3]
theorem dep_le {r : Rw} : dep r ≤ r.length := by
  unfold dep
  cases h : dst r with
  | nil => exact Nat.zero_le _
  | cons d st => exact dst_b r d (by rw [h]; exact List.mem_cons_self)
theorem deep_ok {A : gM} (h : rS A cp u T ch) (hr : reg A P S) (hP : ∀ n, P n → n < u) : ∀ (f n d : Nat), P n → abv T (fun k => k ∈ S) n d → S.length < f + d → (T n).length ≤ 60 → mX6_deep cp f A (nI n) = some (A, nI (dep (T n)))
  | 0, n, d, _, ha, hf, _ => by have := abv_le ha S fun k hk => hk; omega
  | f + 1, n, d, hn, ha, hf, hl60 => by
    have hu := h.2.2.1
    have hcp := okc_le h.2.1
    obtain ⟨m, e, hm, hPm, eb, hk, hnow, hT, -, hcase⟩ := now_kind h hr hP hn
    show mX6_deep_b0 cp (mX6_deep cp f) A (nI n) = _
    rw [← hT] at hl60 ⊢
    rcases hcase with ⟨h2, hTm⟩ | ⟨rfl, hl, hTm⟩ | ⟨h2, i, j, hPi, hPj, hi, hj, hmS, hl, hr2, hTm⟩
    · rw [deep_leaf hnow (isPair6F (by omega) (by omega) hk (by omega) (by omega) (by omega)), hTm, dep_leaf (by omega)]
    · rw [deep_leaf hnow (isPair6F (by omega) (by omega) hk (by omega) (by omega) (by omega)), hTm, dep_leaf (by omega)]
    · have lT : (T m).length = 1 + ((T i).length + (T j).length) := by rw [hTm]; simp; omega
      have d1 := dep_le (r := T i)
      have d2 := dep_le (r := T j)
      rw [deep_pair hnow (isPair6T (by omega) (by omega) hk h2) (by omega) (by omega) hl hr2 (deep_ok h hr hP f i (d + 1) hPi (abv_down (x := [e]) ha hmS hT.symm (by simp) (by rw [hTm]; rfl)) (by omega) (by omega)) (deep_ok h hr hP f j (d + 1) hPj (abv_down (x := e :: T i) (y := []) ha hmS hT.symm (by simp) (by rw [hTm]; simp)) (by omega) (by omega)) (by omega) (by omega), hTm, dep_pair h2 (rS_Ty h i hi) (rS_Ty h j hj)]
end WR
