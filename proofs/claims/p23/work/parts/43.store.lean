/-! NUMBERS AND PLACES IN THE MODELS -/
theorem up_get {A : gM} {i j a b : Nat} {v : Int32} : g_up A i j v a b = if a = i ∧ b = j then v else A a b := by
  by_cases h1 : a = i
  · subst h1
    by_cases h2 : b = j
    · subst h2; rw [if_pos ⟨rfl, rfl⟩]; unfold g_up; rw [g_row_s]; exact if_pos rfl
    · rw [if_neg (fun q => h2 q.2)]; unfold g_up; rw [g_row_s]; exact if_neg h2
  · rw [if_neg (fun q => h1 q.1)]; unfold g_up; rw [g_row_n h1]
theorem up_s {A : gM} {i j : Nat} {v : Int32} : g_up A i j v i j = v := by rw [up_get, if_pos ⟨rfl, rfl⟩]
theorem up_c {A : gM} {i j a b : Nat} {v : Int32} (h : a ≠ i) : g_up A i j v a b = A a b := by rw [up_get, if_neg (fun q => h q.1)]
theorem up_p {A : gM} {i j a b : Nat} {v : Int32} (h : b ≠ j) : g_up A i j v a b = A a b := by rw [up_get, if_neg (fun q => h q.2)]
theorem gin {n N : Nat} (h : n < N) (hN : N ≤ 20000) : g_in (nI n) N = true := decide_eq_true (nI_in h (by omega))
theorem nlt {a b : Nat} (ha : a ≤ 2000000) (hb : b ≤ 2000000) : (nI a < nI b) = (a < b) := propext (nI_ltI (by omega) (by omega))
theorem nle {a b : Nat} (ha : a ≤ 2000000) (hb : b ≤ 2000000) : (nI a ≤ nI b) = (a ≤ b) := propext (nI_leI (by omega) (by omega))
theorem neq {a b : Nat} (ha : a ≤ 2000000) (hb : b ≤ 2000000) : (nI a = nI b) = (a = b) := propext (nI_eq (by omega) (by omega))
theorem nlt0 {a : Nat} (ha : a ≤ 2000000) : ¬ nI a < 0 := nI_pos (by omega)
theorem ncl {a : Nat} (ha : a ≤ 2000000) : (nI a).toNatClampNeg = a := nI_clamp (by omega)
/-! THE STORE OF THE CLASS'S TYPES: u nodes, T the row of each, ch how far a given one is from what it stands for -/
def sN (A : gM) (u : Nat) (T : Nat → Rw) (ch : Nat → Nat) (n : Nat) : Prop :=
  (n < 2 ∧ A 130 n = nI n ∧ T n = [n]) ∨ (2 ≤ n ∧ A 130 n = nI 4 ∧ T n = [100 + n]) ∨
  (2 ≤ n ∧ A 130 n = nI 5 ∧ ∃ i, i < u ∧ A 131 n = nI i ∧ T n = T i ∧ ch i < ch n) ∨
  (2 ≤ n ∧ ∃ c i j, (c = 2 ∨ c = 3) ∧ i < u ∧ j < u ∧ A 130 n = nI c ∧ A 131 n = nI i ∧ A 132 n = nI j ∧ T n = c :: (T i ++ T j))
def sG (A : gM) (u : Nat) : Nat := ((List.range u).filter fun n => decide (A 130 n = nI 5)).length
def sT (A : gM) (u : Nat) (T : Nat → Rw) (ch : Nat → Nat) : Prop := A 129 9 = nI u ∧ 2 ≤ u ∧ u ≤ 2600 ∧ (∀ n, n < u → sN A u T ch n) ∧ ∀ n, n < u → ch n ≤ sG A u
theorem sG_le {A : gM} {u : Nat} : sG A u ≤ u := by
  have := List.length_filter_le (fun n => decide (A 130 n = nI 5)) (List.range u)
  rw [List.length_range] at this; exact this
theorem sT_lit {A : gM} {u : Nat} {T : Nat → Rw} {ch : Nat → Nat} (h : sT A u T ch) : T 0 = [0] ∧ T 1 = [1] ∧ A 130 0 = nI 0 ∧ A 130 1 = nI 1 := by
  have h0 := h.2.2.2.1 0 (by have := h.2.1; omega)
  have h1 := h.2.2.2.1 1 (by have := h.2.1; omega)
  rcases h0 with h0 | h0 | h0 | h0
  · rcases h1 with h1 | h1 | h1 | h1
    · exact ⟨h0.2.2, h1.2.2, h0.2.1, h1.2.1⟩
    · omega
    · omega
    · omega
  · omega
  · omega
  · omega
/-- the kinds of a node that is not given -/
theorem sN_kind {A : gM} {u : Nat} {T : Nat → Rw} {ch : Nat → Nat} {n : Nat} (h : sN A u T ch n) (h5 : A 130 n ≠ nI 5) :
    (n < 2 ∧ A 130 n = nI n ∧ T n = [n]) ∨ (2 ≤ n ∧ A 130 n = nI 4 ∧ T n = [100 + n]) ∨
    (2 ≤ n ∧ ∃ c i j, (c = 2 ∨ c = 3) ∧ i < u ∧ j < u ∧ A 130 n = nI c ∧ A 131 n = nI i ∧ A 132 n = nI j ∧ T n = c :: (T i ++ T j)) := by
  rcases h with h | h | h | h
  · exact Or.inl h
  · exact Or.inr (Or.inl h)
  · exact absurd h.2.1 h5
  · exact Or.inr (Or.inr h)
/-- two nodes, none of them given, with the same row that is a leaf are the same -/
theorem resolve_L {A : gM} {u : Nat} {T : Nat → Rw} {ch : Nat → Nat} (h : sT A u T ch) : ∀ (f n x : Nat), n < u → ch n < f → x + ch n ≤ 2600 → ∃ m, m < u ∧ mX4_resolve_L4 f A (nI n) (nI x) = some (A, nI m) ∧ T m = T n ∧ A 130 m ≠ nI 5
  | 0, n, x, _, hf, _ => by omega
  | f + 1, n, x, hn, hf, hx => by
    have hu := h.2.2.1
    have e45 : mX4_resolve_b45 A (nI n) = some (A, nI n) := by
      unfold mX4_resolve_b45
      rw [if_neg (nlt0 (by omega)), show (2600 : Int32) = nI 2600 from rfl, if_neg (by rw [nle (by omega) (by omega)]; omega)]
      rfl
    show ∃ m, m < u ∧ mX4_resolve_b4 (mX4_resolve_L4 f) A (nI n) (nI x) = some (A, nI m) ∧ T m = T n ∧ A 130 m ≠ nI 5
    unfold mX4_resolve_b4
    by_cases h5 : A 130 n = nI 5
    · rcases h.2.2.2.1 n hn with q | q | ⟨-, -, i, hi, hl, hT, hc⟩ | ⟨-, c, i, j, hc, -, -, hk, -⟩
      · rw [q.2.1, neq (by omega) (by omega)] at h5; omega
      · rw [q.2.1, neq (by omega) (by omega)] at h5; omega
      · rw [show (2600 : Int32) = nI 2600 from rfl, if_neg (by rw [nle (by omega) (by omega)]; omega), if_neg (nlt0 (by omega)), if_neg (by rw [nle (by omega) (by omega)]; omega), gin (by omega) (by omega), if_pos rfl, ncl (by omega), show (5 : Int32) = nI 5 from rfl, if_pos h5, if_pos rfl]
        unfold g_let
        rw [hl, show nI x + 1 = nI (x + 1) from (nI_succ x).symm]
        obtain ⟨m, hm, he, ht, hk⟩ := resolve_L h f i (x + 1) hi (by omega) (by omega)
        exact ⟨m, hm, he, ht.trans hT.symm, hk⟩
      · rw [hk, neq (by omega) (by omega)] at h5; omega
    · refine ⟨n, hn, ?_, rfl, h5⟩
      by_cases hx2 : 2600 ≤ x
      · rw [show (2600 : Int32) = nI 2600 from rfl, if_pos (by rw [nle (by omega) (by omega)]; exact hx2), e45]
      · rw [show (2600 : Int32) = nI 2600 from rfl, if_neg (by rw [nle (by omega) (by omega)]; omega), if_neg (nlt0 (by omega)), if_neg (by rw [nle (by omega) (by omega)]; omega), gin (by omega) (by omega), if_pos rfl, ncl (by omega), show (5 : Int32) = nI 5 from rfl, if_neg h5, e45]
theorem resolve_ok {A : gM} {u : Nat} {T : Nat → Rw} {ch : Nat → Nat} (h : sT A u T ch) {n : Nat} (hn : n < u) : ∃ m, m < u ∧ mX4_resolve A (nI n) = some (A, nI m) ∧ T m = T n ∧ A 130 m ≠ nI 5 := by
  have h1 := h.2.2.2.2 n hn
  have h2 : sG A u ≤ u := sG_le
  have h3 := h.2.2.1
  exact resolve_L h gF n 0 hn (by unfold gF; omega) (by omega)
