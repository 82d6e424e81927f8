/-! MAKING NODES -/
def at1 {α : Type} (f : Nat → α) (u : Nat) (v : α) : Nat → α := fun n => if n = u then v else f n
theorem at1_s {α : Type} {f : Nat → α} {u : Nat} {v : α} : at1 f u v u = v := if_pos rfl
theorem at1_n {α : Type} {f : Nat → α} {u n : Nat} {v : α} (h : n ≠ u) : at1 f u v n = f n := if_neg h
/-- two memories with the same store of types -/
def sameS (A A' : gM) : Prop := A' 129 9 = A 129 9 ∧ A' 130 = A 130 ∧ A' 131 = A 131 ∧ A' 132 = A 132
theorem sameS_rfl {A : gM} : sameS A A := ⟨rfl, rfl, rfl, rfl⟩
theorem sameS_tr {A B C : gM} (h1 : sameS A B) (h2 : sameS B C) : sameS A C := ⟨h2.1.trans h1.1, h2.2.1.trans h1.2.1, h2.2.2.1.trans h1.2.2.1, h2.2.2.2.trans h1.2.2.2⟩
theorem g_up_cell {A : gM} {i j a : Nat} {v : Int32} (h : a ≠ i) : g_up A i j v a = A a := g_row_n h
theorem sameS_up {A : gM} {i j : Nat} {v : Int32} (h : i < 129 ∨ 132 < i) : sameS A (g_up A i j v) := ⟨up_c (by omega), g_up_cell (by omega), g_up_cell (by omega), g_up_cell (by omega)⟩
theorem sameS_st {A : gM} {j : Nat} {v : Int32} (h : j ≠ 9) : sameS A (g_up A 129 j v) := ⟨up_p (by omega), g_up_cell (by omega), g_up_cell (by omega), g_up_cell (by omega)⟩
theorem sG_same {A A' : gM} {u : Nat} (h : sameS A A') : sG A' u = sG A u := by unfold sG; rw [h.2.1]
theorem sN_same {A A' : gM} {u : Nat} {T : Nat → Rw} {ch : Nat → Nat} {n : Nat} (h : sameS A A') (q : sN A u T ch n) : sN A' u T ch n := by
  unfold sN at q ⊢; rw [h.2.1, h.2.2.1, h.2.2.2]; exact q
theorem sT_same {A A' : gM} {u : Nat} {T : Nat → Rw} {ch : Nat → Nat} (h : sameS A A') (q : sT A u T ch) : sT A' u T ch :=
  ⟨h.1.trans q.1, q.2.1, q.2.2.1, fun n hn => sN_same h (q.2.2.2.1 n hn), fun n hn => by rw [sG_same h]; exact q.2.2.2.2 n hn⟩
/-- the memory behind make -/
def mkA (A : gM) (u : Nat) (x y z : Int32) : gM := g_up (g_up (g_up (g_up A 130 u x) 131 u y) 132 u z) 129 9 (nI (u + 1))
theorem mkA_used {A : gM} {u : Nat} {x y z : Int32} : mkA A u x y z 129 9 = nI (u + 1) := up_s
theorem mkA_130 {A : gM} {u n : Nat} {x y z : Int32} : mkA A u x y z 130 n = if n = u then x else A 130 n := by
  unfold mkA
  rw [up_c (by omega), up_c (by omega), up_c (by omega), up_get]
  by_cases h : n = u
  · rw [if_pos ⟨rfl, h⟩, if_pos h]
  · rw [if_neg (fun q => h q.2), if_neg h]
theorem mkA_131 {A : gM} {u n : Nat} {x y z : Int32} : mkA A u x y z 131 n = if n = u then y else A 131 n := by
  unfold mkA
  rw [up_c (by omega), up_c (by omega), up_get, up_c (by omega)]
  by_cases h : n = u
  · rw [if_pos ⟨rfl, h⟩, if_pos h]
  · rw [if_neg (fun q => h q.2), if_neg h]
theorem mkA_132 {A : gM} {u n : Nat} {x y z : Int32} : mkA A u x y z 132 n = if n = u then z else A 132 n := by
  unfold mkA
  rw [up_c (by omega), up_get, up_c (by omega), up_c (by omega)]
  by_cases h : n = u
  · rw [if_pos ⟨rfl, h⟩, if_pos h]
  · rw [if_neg (fun q => h q.2), if_neg h]
theorem mkA_else {A : gM} {u : Nat} {x y z : Int32} {a b : Nat} (h : a < 129 ∨ 132 < a ∨ (a = 129 ∧ b ≠ 9)) : mkA A u x y z a b = A a b := by
  unfold mkA
  rw [up_get, if_neg (by omega), up_c (by omega), up_c (by omega), up_c (by omega)]
theorem make_eq {A : gM} {u : Nat} {x y z : Int32} (h9 : A 129 9 = nI u) (hu : u < 2600) : mX4_make A x y z = some (mkA A u x y z, nI u) := by
  unfold mX4_make mX4_make_b0
  rw [h9, if_neg (nlt0 (by omega)), show (2600 : Int32) = nI 2600 from rfl, if_pos (by rw [nlt (by omega) (by omega)]; exact hu), gin (by omega) (by omega), if_pos rfl]
  unfold g_let
  dsimp only
  rw [ncl (by omega)]
  rw [show g_up A 130 u x 129 9 = nI u by rw [up_c (by omega), h9], gin (by omega) (by omega), if_pos rfl, ncl (by omega)]
  rw [show g_up (g_up A 130 u x) 131 u y 129 9 = nI u by rw [up_c (by omega), up_c (by omega), h9], gin (by omega) (by omega), if_pos rfl, ncl (by omega)]
  rw [show g_up (g_up (g_up A 130 u x) 131 u y) 132 u z 129 9 = nI u by rw [up_c (by omega), up_c (by omega), up_c (by omega), h9], up_s, show nI u + 1 = nI (u + 1) from (nI_succ u).symm, nI_pred]
  rfl
theorem sG_mk {A : gM} {u : Nat} {x y z : Int32} (hx : x ≠ nI 5) : sG (mkA A u x y z) (u + 1) = sG A u := by
  unfold sG
  rw [List.range_succ, List.filter_append]
  have h1 : (List.filter (fun n => decide (mkA A u x y z 130 n = nI 5)) [u]) = [] := by
    rw [List.filter_cons, mkA_130, if_pos rfl, if_neg (by simpa using hx)]; rfl
  rw [h1, List.append_nil]
  congr 1
  apply List.filter_congr
  intro n hn
  rw [List.mem_range] at hn
  rw [mkA_130, if_neg (by omega)]
theorem sN_mk {A : gM} {u : Nat} {T : Nat → Rw} {ch : Nat → Nat} {x y z : Int32} {r : Rw} {n : Nat} (hn : n < u) (h : sN A u T ch n) : sN (mkA A u x y z) (u + 1) (at1 T u r) (at1 ch u 0) n := by
  have e0 : mkA A u x y z 130 n = A 130 n := by rw [mkA_130, if_neg (by omega)]
  have e1 : mkA A u x y z 131 n = A 131 n := by rw [mkA_131, if_neg (by omega)]
  have e2 : mkA A u x y z 132 n = A 132 n := by rw [mkA_132, if_neg (by omega)]
  have t : ∀ i, i < u → at1 T u r i = T i := fun i hi => at1_n (by omega)
  have c : ∀ i, i < u → at1 ch u 0 i = ch i := fun i hi => at1_n (by omega)
  unfold sN
  rw [e0, e1, e2, t n hn, c n hn]
  rcases h with h | h | ⟨h2, h5, i, hi, hl, hT, hc⟩ | ⟨h2, d, i, j, hd, hi, hj, hk, hl, hr, hT⟩
  · exact Or.inl h
  · exact Or.inr (Or.inl h)
  · exact Or.inr (Or.inr (Or.inl ⟨h2, h5, i, by omega, hl, by rw [t i hi]; exact hT, by rw [c i hi]; exact hc⟩))
  · exact Or.inr (Or.inr (Or.inr ⟨h2, d, i, j, hd, by omega, by omega, hk, hl, hr, by rw [t i hi, t j hj]; exact hT⟩))
theorem sT_mk {A : gM} {u : Nat} {T : Nat → Rw} {ch : Nat → Nat} {x y z : Int32} {r : Rw} (h : sT A u T ch) (hu : u < 2600) (hx : x ≠ nI 5) (hn : sN (mkA A u x y z) (u + 1) (at1 T u r) (at1 ch u 0) u) : sT (mkA A u x y z) (u + 1) (at1 T u r) (at1 ch u 0) := by
  refine ⟨mkA_used, by have := h.2.1; omega, by omega, fun n hn2 => ?_, fun n hn2 => ?_⟩
  · by_cases e : n = u
    · subst e; exact hn
    · exact sN_mk (by omega) (h.2.2.2.1 n (by omega))
  · rw [sG_mk hx]
    by_cases e : n = u
    · subst e; rw [at1_s]; omega
    · rw [at1_n e]; exact h.2.2.2.2 n (by omega)
/-- a new pair -/
theorem pair_ok {A : gM} {u : Nat} {T : Nat → Rw} {ch : Nat → Nat} {c i j : Nat} (h : sT A u T ch) (hu : u < 2600) (hc : c = 2 ∨ c = 3) (hi : i < u) (hj : j < u) :
    mX4_make A (nI c) (nI i) (nI j) = some (mkA A u (nI c) (nI i) (nI j), nI u) ∧ sT (mkA A u (nI c) (nI i) (nI j)) (u + 1) (at1 T u (c :: (T i ++ T j))) (at1 ch u 0) := by
  refine ⟨make_eq h.1 hu, sT_mk h hu (by rw [Ne, neq (by omega) (by omega)]; omega) ?_⟩
  refine Or.inr (Or.inr (Or.inr ⟨h.2.1, c, i, j, hc, by omega, by omega, ?_, ?_, ?_, ?_⟩))
  · rw [mkA_130, if_pos rfl]
  · rw [mkA_131, if_pos rfl]
  · rw [mkA_132, if_pos rfl]
  · rw [at1_s, at1_n (by omega), at1_n (by omega)]
/-- a new variable -/
theorem var_ok {A : gM} {u : Nat} {T : Nat → Rw} {ch : Nat → Nat} (h : sT A u T ch) (hu : u < 2600) :
    mX4_make A 4 (-1) (-1) = some (mkA A u 4 (-1) (-1), nI u) ∧ sT (mkA A u 4 (-1) (-1)) (u + 1) (at1 T u [100 + u]) (at1 ch u 0) := by
  refine ⟨make_eq h.1 hu, sT_mk h hu (by decide) ?_⟩
  refine Or.inr (Or.inl ⟨h.2.1, ?_, ?_⟩)
  · rw [mkA_130, if_pos rfl]; rfl
  · rw [at1_s]
theorem newVariable_ok {A : gM} {u : Nat} {T : Nat → Rw} {ch : Nat → Nat} (h : sT A u T ch) (hu : u < 2600) :
    mX4_newVariable A = some (mkA A u 4 (-1) (-1), nI u) ∧ sT (mkA A u 4 (-1) (-1)) (u + 1) (at1 T u [100 + u]) (at1 ch u 0) := by
  refine ⟨?_, (var_ok h hu).2⟩
  unfold mX4_newVariable mX4_newVariable_b0
  rw [(var_ok h hu).1]; rfl
/-- the store cleared: the two plain types -/
theorem clear_ok (A : gM) : ∃ A', mX4_clear A = some A' ∧ sT A' 2 (fun n => [n]) (fun _ => 0) ∧ ∀ a b, (a < 129 ∨ 132 < a ∨ (a = 129 ∧ b ≠ 9)) → A' a b = A a b := by
  have h1 : mX4_make (g_up A 129 9 0) 0 (-1) (-1) = some (mkA (g_up A 129 9 0) 0 0 (-1) (-1), nI 0) := make_eq (u := 0) up_s (by omega)
  have h2 : mX4_make (mkA (g_up A 129 9 0) 0 0 (-1) (-1)) 1 (-1) (-1) = some (mkA (mkA (g_up A 129 9 0) 0 0 (-1) (-1)) 1 1 (-1) (-1), nI 1) := make_eq (u := 1) mkA_used (by omega)
  refine ⟨mkA (mkA (g_up A 129 9 0) 0 0 (-1) (-1)) 1 1 (-1) (-1), ?_, ⟨mkA_used, by omega, by omega, fun n hn => ?_, fun n _ => Nat.zero_le _⟩, fun a b h => ?_⟩
  · unfold mX4_clear mX4_clear_b0 g_let
    dsimp only
    rw [h1]
    rw [Option.bind_some]
    dsimp only
    rw [h2, Option.bind_some]
  · refine Or.inl ⟨hn, ?_, rfl⟩
    have : n = 0 ∨ n = 1 := by omega
    rcases this with rfl | rfl
    · rw [mkA_130, if_neg (by omega), mkA_130, if_pos rfl]; rfl
    · rw [mkA_130, if_pos rfl]; rfl
  · rw [mkA_else h, mkA_else h, up_get, if_neg (by omega)]
