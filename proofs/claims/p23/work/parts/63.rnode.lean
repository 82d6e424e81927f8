/-! THE REFERENCE'S node, isAround AND own -/
/-- what growing costs -/
def cost (cp cp' k n : Nat) : Prop := okc cp' ∧ cp ≤ cp' ∧ 100 * k + cp ≤ cp' ∧ n + 10 * cp = 10 * cp'
theorem cost_rfl {cp : Nat} (h : okc cp) : cost cp cp 0 0 := ⟨h, by omega, by omega, by omega⟩
theorem cost_tr {a b c k n k' n' : Nat} (h1 : cost a b k n) (h2 : cost b c k' n') : cost a c (k + k') (n + n') := by
  obtain ⟨-, a1, a2, a3⟩ := h1
  obtain ⟨b0, b1, b2, b3⟩ := h2
  exact ⟨b0, by omega, by omega, by omega⟩
theorem nar0 : vp_nar .boolean 0 = 0 := by decide +kernel
theorem nar1 : vp_nar .boolean 1 = 1 := by decide +kernel
def ndA (A : gM) (u : Nat) (x y z : Int32) : gM := g_up (g_up (g_up (g_up (g_up (g_up A 185 u x) 186 u y) 187 u z) 188 u 0) 189 u (-1)) 183 3 (nI (u + 1))
theorem node_87 {N cp k n u : Nat} {A : gM} {x y z : Int32} (h3 : A 183 3 = nI u) (hu : u < cp) (hcp : cp ≤ 8000) : mX6_node_b87 N cp k n A x y z = some (ndA A u x y z, (cp, k, n), nI u) := by
  unfold mX6_node_b87
  simp (disch := omega) only [lq2, lq3, lq4, lq5, lq6, lq7, lq8, lq9, lq10, lq11, lq40, lq59, lq60, lq61, lq100, lq500, lq2600, lq5208, lq1000000, ltT, ltF, leT, leF, eqT, eqF, lt0F, le0F, le0T, ge0T, eq0T, eq0F, eqm1F, ten0, m1lt0, eq_self, nI_add, nI_1, sub1, addm1, addm2, subn, cl0, cl1, ncl, ginT, gin0, gin1, ↓reduceIte, if_true, if_false, Nat.add_sub_cancel, obe, ↓gle, true_or, or_true, upS, up_c, up_p, h3, nar0]
  rfl
theorem ndA_get {A : gM} {u : Nat} {x y z : Int32} : ndA A u x y z 183 3 = nI (u + 1) ∧ ndA A u x y z 185 u = x ∧ ndA A u x y z 186 u = y ∧ ndA A u x y z 187 u = z ∧ ndA A u x y z 188 u = 0 ∧ ndA A u x y z 189 u = -1 := by
  unfold ndA
  refine ⟨?_, ?_, ?_, ?_, ?_, ?_⟩
  · simp (disch := omega) only [upS, up_c, up_p]
  · simp (disch := omega) only [upS, up_c, up_p]
  · simp (disch := omega) only [upS, up_c, up_p]
  · simp (disch := omega) only [upS, up_c, up_p]
  · simp (disch := omega) only [upS, up_c, up_p]
  · simp (disch := omega) only [upS, up_c, up_p]
def offN (A A' : gM) (u : Nat) : Prop := ∀ a b, ¬ (a = 183 ∧ b = 3) → (a < 185 ∨ 189 < a ∨ b < u) → A' a b = A a b
theorem ndA_off {A : gM} {u : Nat} {x y z : Int32} : offN A (ndA A u x y z) u := by
  intro a b h1 h2
  unfold ndA
  rw [up_get, if_neg (by omega), up_get, if_neg (by omega), up_get, if_neg (by omega), up_get, if_neg (by omega), up_get, if_neg (by omega), up_get, if_neg (by omega)]
theorem node_raw {N cp u : Nat} {A : gM} {x y z : Int32} (h3 : A 183 3 = nI u) (hc : okc cp) (hu : u ≤ cp) (hu8 : u < 8000) (hO : rO A cp) :
    ∃ A' cp' k n, mX6_node N cp A x y z = some (A', (cp', k, n), nI u) ∧ cost cp cp' k n ∧ u + 1 ≤ cp' ∧ A' 183 3 = nI (u + 1) ∧ A' 185 u = x ∧ A' 186 u = y ∧ A' 187 u = z ∧ A' 188 u = 0 ∧ A' 189 u = -1 ∧ offN A A' u ∧ rO A' cp' := by
  have hcp := okc_le hc
  by_cases e : u = cp
  · subst e
    have hok : g_grok A u = true := by
      unfold g_grok
      rw [Bool.and_eq_true]
      refine ⟨decide_eq_true (by omega), ?_⟩
      rw [List.all_eq_true]
      intro i hi
      rcases hO i (List.mem_range.mp hi) with q | q
      · rw [q]; rfl
      · rw [q]; rfl
    have g3 : g_grown A u 183 3 = nI u := by unfold g_grown; rw [if_neg (by omega)]; exact h3
    have hc2 : okc (2 * u) := by unfold okc at hc ⊢; omega
    have go : offN A (g_grown A u) u := by
      intro a b h1 h2
      unfold g_grown
      by_cases q : 185 ≤ a ∧ a ≤ 189
      · rw [if_pos q]; unfold g_dbl; rw [if_pos (by omega)]
      · rw [if_neg q]
    refine ⟨ndA (g_grown A u) u x y z, 2 * u, 0 + 5, 0 + 10 * u, ?_, ⟨hc2, by omega, by omega, by omega⟩, by omega, ndA_get.1, ndA_get.2.1, ndA_get.2.2.1, ndA_get.2.2.2.1, ndA_get.2.2.2.2.1, ndA_get.2.2.2.2.2, fun a b h1 h2 => by rw [ndA_off a b h1 h2, go a b h1 h2], fun i hi => ?_⟩
    · unfold mX6_node mX6_node_b0
      rw [if_pos (by rw [h3, ofN]), if_pos hok]
      exact node_87 g3 (by omega) (okc_le hc2).2
    · by_cases q : i = u
      · subst q; rw [ndA_get.2.2.2.2.1]; exact Or.inl rfl
      · unfold ndA
        rw [up_c (by omega), up_c (by omega), up_p q, up_c (by omega), up_c (by omega), up_c (by omega)]
        unfold g_grown
        rw [if_pos (by omega)]
        unfold g_dbl
        by_cases q2 : i < u
        · rw [if_pos q2]; exact hO i q2
        · rw [if_neg q2]; exact Or.inl rfl
  · refine ⟨ndA A u x y z, cp, 0, 0, ?_, cost_rfl hc, by omega, ndA_get.1, ndA_get.2.1, ndA_get.2.2.1, ndA_get.2.2.2.1, ndA_get.2.2.2.2.1, ndA_get.2.2.2.2.2, ndA_off, fun i hi => ?_⟩
    · unfold mX6_node mX6_node_b0
      rw [if_neg (by rw [h3, ofN, neq (by omega) (by omega)]; exact e)]
      exact node_87 h3 (by omega) hcp.2
    · by_cases q : i = u
      · subst q; rw [ndA_get.2.2.2.2.1]; exact Or.inl rfl
      · unfold ndA
        rw [up_c (by omega), up_c (by omega), up_p q, up_c (by omega), up_c (by omega), up_c (by omega)]
        exact hO i hi
theorem rN_off {A A' : gM} {u v : Nat} {T : Nat → Rw} {ch : Nat → Nat} {r : Rw} {n : Nat} (hn : n < u) (hv : u ≤ v) (o : offN A A' u) (h : rN A u T ch n) : rN A' (v + 1) (at1 T v r) (at1 ch v 0) n := by
  have t : ∀ i, i < u → at1 T v r i = T i := fun i hi => at1_n (by omega)
  have c : ∀ i, i < u → at1 ch v 0 i = ch i := fun i hi => at1_n (by omega)
  unfold rN
  rw [o 185 n (by omega) (by omega), o 186 n (by omega) (by omega), o 187 n (by omega) (by omega), t n hn, c n hn]
  rcases h with h | h | ⟨h4, i, hi, hl, hT, hc⟩ | ⟨d, i, j, hd, hi, hj, hk, hl, hr, hT⟩
  · exact Or.inl h
  · exact Or.inr (Or.inl h)
  · exact Or.inr (Or.inr (Or.inl ⟨h4, i, by omega, hl, by rw [t i hi]; exact hT, by rw [c i hi]; exact hc⟩))
  · exact Or.inr (Or.inr (Or.inr ⟨d, i, j, hd, by omega, by omega, hk, hl, hr, by rw [t i hi, t j hj]; exact hT⟩))
theorem rG_mk {A A' : gM} {u : Nat} (o : offN A A' u) (hb : ¬ rbd A' u) : rG A' (u + 1) = rG A u := by
  unfold rG
  rw [List.range_succ, List.filter_append]
  have h1 : (List.filter (fun n => decide (A' 185 n = nI 4 ∧ ¬ A' 186 n = -1)) [u]) = [] := by
    rw [List.filter_cons, if_neg (by simpa [rbd] using hb)]; rfl
  rw [h1, List.append_nil]
  congr 1
  apply List.filter_congr
  intro n hn
  rw [List.mem_range] at hn
  rw [o 185 n (by omega) (by omega), o 186 n (by omega) (by omega)]
theorem rS_mk {A A' : gM} {cp cp' u : Nat} {T : Nat → Rw} {ch : Nat → Nat} {r : Rw} (h : rS A cp u T ch) (o : offN A A' u) (h3 : A' 183 3 = nI (u + 1)) (hc : okc cp') (hu : u + 1 ≤ cp') (hO : rO A' cp') (hb : ¬ rbd A' u) (hn : rN A' (u + 1) (at1 T u r) (at1 ch u 0) u) : rS A' cp' (u + 1) (at1 T u r) (at1 ch u 0) := by
  refine ⟨h3, hc, hu, fun n hn2 => ?_, hO, fun n hn2 => ?_⟩
  · by_cases e : n = u
    · subst e; exact hn
    · exact rN_off (by omega) (Nat.le_refl _) o (h.2.2.2.1 n (by omega))
  · rw [rG_mk o hb]
    by_cases e : n = u
    · subst e; rw [at1_s]; omega
    · rw [at1_n e]; exact h.2.2.2.2.2 n (by omega)
/-- nodes from b on, which go to such ones alone -/
def prs (A : gM) (b u : Nat) : List Nat := (List.range u).filter fun n => decide (b ≤ n ∧ (A 185 n = nI 2 ∨ A 185 n = nI 3))
def RG (A : gM) (b u : Nat) : Prop := reg A (fun n => b ≤ n ∧ n < u) (prs A b u)
theorem mem_prs {A : gM} {b u n : Nat} : n ∈ prs A b u ↔ n < u ∧ b ≤ n ∧ (A 185 n = nI 2 ∨ A 185 n = nI 3) := by
  unfold prs
  rw [List.mem_filter, List.mem_range, decide_eq_true_iff]
theorem prs_off {A A' : gM} {b u : Nat} (o : ∀ n, n < u → A' 185 n = A 185 n) : prs A' b u = prs A b u := by
  unfold prs
  apply List.filter_congr
  intro n hn
  rw [o n (List.mem_range.mp hn)]
theorem prs_len {A A' : gM} {b u : Nat} (o : ∀ n, n < u → A' 185 n = A 185 n) : (prs A' b (u + 1)).length ≤ (prs A b u).length + 1 ∧ (¬ (A' 185 u = nI 2 ∨ A' 185 u = nI 3) → (prs A' b (u + 1)).length = (prs A b u).length) := by
  have e : prs A' b (u + 1) = prs A b u ++ (List.filter (fun n => decide (b ≤ n ∧ (A' 185 n = nI 2 ∨ A' 185 n = nI 3))) [u]) := by
    rw [← prs_off o]; unfold prs; rw [List.range_succ, List.filter_append]
  rw [e, List.length_append]
  constructor
  · have := List.length_filter_le (fun n => decide (b ≤ n ∧ (A' 185 n = nI 2 ∨ A' 185 n = nI 3))) [u]
    rw [List.length_singleton] at this; omega
  · intro q
    rw [List.filter_cons, if_neg (by simp only [decide_eq_true_eq]; exact fun z => q z.2)]; rfl
theorem RG_mk {A A' : gM} {b u : Nat} (h : RG A b u) (o : offN A A' u) (hu : u < 8000)
    (n1 : ∀ i, A' 185 u = nI 4 → A' 186 u = nI i → i < 8000 → b ≤ i ∧ i < u + 1) (n2 : ∀ c i j, (c = 2 ∨ c = 3) → A' 185 u = nI c → A' 186 u = nI i → A' 187 u = nI j → i < 8000 → j < 8000 → (b ≤ i ∧ i < u + 1) ∧ b ≤ j ∧ j < u + 1) : RG A' b (u + 1) := by
  intro n hn
  by_cases e : n = u
  · subst e
    refine ⟨n1, fun c i j hc z1 z2 z3 z4 z5 => ⟨?_, n2 c i j hc z1 z2 z3 z4 z5⟩⟩
    rw [mem_prs]
    exact ⟨by omega, hn.1, by rcases hc with rfl | rfl; exact Or.inl z1; exact Or.inr z1⟩
  · have hh := h n ⟨hn.1, by omega⟩
    refine ⟨fun i z1 z2 z3 => ?_, fun c i j hc z1 z2 z3 z4 z5 => ?_⟩
    · rw [o 185 n (by omega) (by omega)] at z1; rw [o 186 n (by omega) (by omega)] at z2
      have := hh.1 i z1 z2 z3; omega
    · have z1' := z1
      rw [o 185 n (by omega) (by omega)] at z1; rw [o 186 n (by omega) (by omega)] at z2; rw [o 187 n (by omega) (by omega)] at z3
      have := hh.2 c i j hc z1 z2 z3 z4 z5
      refine ⟨?_, by omega, by omega⟩
      rw [mem_prs]
      exact ⟨by omega, hn.1, by rcases hc with rfl | rfl; exact Or.inl z1'; exact Or.inr z1'⟩
/-- fresh numbers of nodes -/
def rF (A : gM) (u : Nat) : Prop := ∀ n, n < u → A 189 n = -1 ∨ ∃ w, w < u ∧ A 189 n = nI w
theorem rF_mk {A A' : gM} {u : Nat} (h : rF A u) (o : offN A A' u) (h9 : A' 189 u = -1) : rF A' (u + 1) := by
  intro n hn
  by_cases e : n = u
  · subst e; exact Or.inl h9
  · rw [o 189 n (by omega) (by omega)]
    rcases h n (by omega) with q | ⟨w, q1, q2⟩
    · exact Or.inl q
    · exact Or.inr ⟨w, by omega, q2⟩
/-- the reference's world while it finds: store, region, fresh numbers -/
def rW (A : gM) (cp b u : Nat) (T : Nat → Rw) (ch : Nat → Nat) : Prop := rS A cp u T ch ∧ RG A b u ∧ rF A u ∧ b ≤ u
theorem leafN_ok {N cp b u : Nat} {A : gM} {T : Nat → Rw} {ch : Nat → Nat} {c : Nat} (h : rW A cp b u T ch) (hu : u < 8000) (hc : c < 2) :
    ∃ A' cp' k n, mX6_node N cp A (nI c) (-1) (-1) = some (A', (cp', k, n), nI u) ∧ cost cp cp' k n ∧ rW A' cp' b (u + 1) (at1 T u [c]) (at1 ch u 0) ∧ offN A A' u ∧ (prs A' b (u + 1)).length = (prs A b u).length ∧ A' 188 u = 0 := by
  obtain ⟨A', cp', k, n, e, hco, hu1, h3, k5, k6, k7, k8, k9, o, hO⟩ := node_raw (N := N) (x := nI c) (y := -1) (z := -1) h.1.1 h.1.2.1 h.1.2.2.1 hu h.1.2.2.2.2.1
  have nb : ¬ rbd A' u := fun q => by rw [rbd, k5, neq (by omega) (by omega)] at q; omega
  refine ⟨A', cp', k, n, e, hco, ⟨rS_mk h.1 o h3 hco.1 hu1 hO nb (Or.inl ⟨c, hc, k5, at1_s⟩), RG_mk h.2.1 o hu (fun i z => by rw [k5, neq (by omega) (by omega)] at z; omega) (fun c' i j hc' z => by rw [k5, neq (by omega) (by omega)] at z; omega), rF_mk h.2.2.1 o k9, by have := h.2.2.2; omega⟩, o, (prs_len (fun n hn => o 185 n (by omega) (by omega))).2 ?_, k8⟩
  rw [k5, neq (by omega) (by omega), neq (by omega) (by omega)]; omega
theorem variable_ok {N cp b u : Nat} {A : gM} {T : Nat → Rw} {ch : Nat → Nat} (h : rW A cp b u T ch) (hu : u < 8000) :
    ∃ A' cp' k n, mX6_variable N cp A = some (A', (cp', k, n), nI u) ∧ cost cp cp' k n ∧ rW A' cp' b (u + 1) (at1 T u [10 + u]) (at1 ch u 0) ∧ offN A A' u ∧ (prs A' b (u + 1)).length = (prs A b u).length ∧ A' 188 u = 0 ∧ A' 185 u = nI 4 ∧ A' 186 u = -1 := by
  obtain ⟨A', cp', k, n, e, hco, hu1, h3, k5, k6, k7, k8, k9, o, hO⟩ := node_raw (N := N) (x := nI 4) (y := -1) (z := -1) h.1.1 h.1.2.1 h.1.2.2.1 hu h.1.2.2.2.2.1
  have nb : ¬ rbd A' u := fun q => q.2 k6
  refine ⟨A', cp', 0 + k, 0 + n, ?_, by rw [Nat.zero_add, Nat.zero_add]; exact hco, ⟨rS_mk h.1 o h3 hco.1 hu1 hO nb (Or.inr (Or.inl ⟨k5, k6, at1_s⟩)), RG_mk h.2.1 o hu (fun i _ z hi => by rw [k6] at z; exact absurd z.symm (by rw [eqm1F (by omega)]; exact id)) (fun c' i j hc' z => by rw [k5, neq (by omega) (by omega)] at z; omega), rF_mk h.2.2.1 o k9, by have := h.2.2.2; omega⟩, o, (prs_len (fun n hn => o 185 n (by omega) (by omega))).2 ?_, k8, k5, k6⟩
  · unfold mX6_variable mX6_variable_b0 mX6_variable_b7
    rw [show (4 : Int32) = nI 4 from lq4, e]
    exact obe
  · rw [k5, neq (by omega) (by omega), neq (by omega) (by omega)]; omega
theorem pairN_ok {N cp b u : Nat} {A : gM} {T : Nat → Rw} {ch : Nat → Nat} {c i j : Nat} (h : rW A cp b u T ch) (hu : u < 8000) (hc : c = 2 ∨ c = 3) (hi : b ≤ i ∧ i < u) (hj : b ≤ j ∧ j < u) :
    ∃ A' cp' k n, mX6_node N cp A (nI c) (nI i) (nI j) = some (A', (cp', k, n), nI u) ∧ cost cp cp' k n ∧ rW A' cp' b (u + 1) (at1 T u (c :: (T i ++ T j))) (at1 ch u 0) ∧ offN A A' u ∧ (prs A' b (u + 1)).length ≤ (prs A b u).length + 1 ∧ A' 188 u = 0 := by
  obtain ⟨A', cp', k, n, e, hco, hu1, h3, k5, k6, k7, k8, k9, o, hO⟩ := node_raw (N := N) (x := nI c) (y := nI i) (z := nI j) h.1.1 h.1.2.1 h.1.2.2.1 hu h.1.2.2.2.2.1
  have nb : ¬ rbd A' u := fun q => by rw [rbd, k5, neq (by omega) (by omega)] at q; omega
  refine ⟨A', cp', k, n, e, hco, ⟨rS_mk h.1 o h3 hco.1 hu1 hO nb (Or.inr (Or.inr (Or.inr ⟨c, i, j, hc, by omega, by omega, k5, k6, k7, by rw [at1_s, at1_n (by omega), at1_n (by omega)]⟩))), RG_mk h.2.1 o hu (fun i z => by rw [k5, neq (by omega) (by omega)] at z; omega) (fun c' i' j' hc' _ z1 z2 z3 z4 => ?_), rF_mk h.2.2.1 o k9, by have := h.2.2.2; omega⟩, o, (prs_len (fun n hn => o 185 n (by omega) (by omega))).1, k8⟩
  rw [k6, neq (by omega) (by omega)] at z1
  rw [k7, neq (by omega) (by omega)] at z2
  omega
