/-! WHAT U ANSWERS, FROM ITS PIECES -/
theorem U_refl (a : Rw) : U 1 a a = some (.inr []) := by unfold U; rw [if_pos rfl]
theorem U_varl {v : Nat} {b : Rw} (hv : 10 ≤ v) (hne : [v] ≠ b) (hb : b ≠ []) : U 1 [v] b = some (if v ∈ b then .inl 3 else .inr [(v, b)]) := by
  unfold U
  rw [if_neg hne]
  cases b with
  | nil => exact absurd rfl hb
  | cons y b' =>
    dsimp only
    rw [if_pos hv]
    by_cases h : v ∈ y :: b'
    · rw [if_pos h, if_pos h]
    · rw [if_neg h, if_neg h]
theorem U_varr {v x : Nat} {a : Rw} (hv : 10 ≤ v) (hx : x < 10) : U 1 (x :: a) [v] = some (if v ∈ x :: a then .inl 3 else .inr [(v, x :: a)]) := by
  unfold U
  rw [if_neg (fun e => by have := (List.cons.inj e).1; omega)]
  dsimp only
  rw [if_neg (by omega), if_pos hv]
  by_cases h : v ∈ x :: a
  · rw [if_pos h, if_pos h]
  · rw [if_neg h, if_neg h]
theorem U_kind {x y : Nat} {a b : Rw} (hx : x < 10) (hy : y < 10) (h : x ≠ y) : U 1 (x :: a) (y :: b) = some (.inl 2) := by
  unfold U
  rw [if_neg (fun e => h (List.cons.inj e).1)]
  dsimp only
  rw [if_neg (by omega), if_neg (by omega), if_pos h]
theorem U_eq {f : Nat} {a : Rw} {res : Nat ⊕ List (Nat × Rw)} (h : U f a a = some res) : res = .inr [] := U_det h (U_refl a)
theorem U_pair1 {g x n : Nat} {a1 a2 b1 b2 : Rw} (hx : x < 10) (ta : Ty a1) (tb : Ty b1) (h1 : U g a1 b1 = some (.inl n)) : U (g + 1) (x :: (a1 ++ a2)) (x :: (b1 ++ b2)) = some (.inl n) := by
  by_cases e : x :: (a1 ++ a2) = x :: (b1 ++ b2)
  · have := (Ty_inj ta tb (List.cons.inj e).2).1
    subst this
    cases U_eq h1
  · unfold U
    rw [if_neg e]
    dsimp only
    rw [if_neg (by omega), if_neg (by omega), if_neg (fun z => z rfl), Ty_cut ta, Ty_cut tb, h1]
def resA (bs : List (Nat × Rw)) : Nat ⊕ List (Nat × Rw) → Nat ⊕ List (Nat × Rw)
  | .inl n => .inl n
  | .inr b2 => .inr (bs ++ b2)
theorem U_pair2 {g x : Nat} {a1 a2 b1 b2 : Rw} {bs : List (Nat × Rw)} {res : Nat ⊕ List (Nat × Rw)} (hx : x < 10) (ta : Ty a1) (tb : Ty b1) (h1 : U g a1 b1 = some (.inr bs)) (h2 : U g (apL bs a2) (apL bs b2) = some res) :
    U (g + 1) (x :: (a1 ++ a2)) (x :: (b1 ++ b2)) = some (resA bs res) := by
  by_cases e : x :: (a1 ++ a2) = x :: (b1 ++ b2)
  · have q := Ty_inj ta tb (List.cons.inj e).2
    obtain ⟨q1, q2⟩ := q
    subst q1; subst q2
    cases U_eq h1
    cases U_eq h2
    unfold U; rw [if_pos rfl]; rfl
  · unfold U
    rw [if_neg e]
    dsimp only
    rw [if_neg (by omega), if_neg (by omega), if_neg (fun z => z rfl), Ty_cut ta, Ty_cut tb, h1]
    dsimp only
    rw [h2]
    cases res with
    | inl n => rfl
    | inr b2 => rfl
theorem U_pairF {g1 g2 x n : Nat} {a1 a2 b1 b2 : Rw} {bs : List (Nat × Rw)} (hx : x < 10) (ta : Ty a1) (tb : Ty b1) (h1 : U g1 a1 b1 = some (.inr bs)) (h2 : U g2 (apL bs a2) (apL bs b2) = some (.inl n)) : ∃ g, U g (x :: (a1 ++ a2)) (x :: (b1 ++ b2)) = some (.inl n) :=
  ⟨g1 + g2 + 1, U_pair2 hx ta tb (U_mono_le (by omega) h1) (U_mono_le (by omega) h2)⟩
theorem U_pairS {g1 g2 x : Nat} {a1 a2 b1 b2 : Rw} {bs bs2 : List (Nat × Rw)} (hx : x < 10) (ta : Ty a1) (tb : Ty b1) (h1 : U g1 a1 b1 = some (.inr bs)) (h2 : U g2 (apL bs a2) (apL bs b2) = some (.inr bs2)) : ∃ g, U g (x :: (a1 ++ a2)) (x :: (b1 ++ b2)) = some (.inr (bs ++ bs2)) :=
  ⟨g1 + g2 + 1, U_pair2 hx ta tb (U_mono_le (by omega) h1) (U_mono_le (by omega) h2)⟩
/-! ONE ROW WITHIN ANOTHER; CHAINS OF NODES -/
def inf (a b : Rw) : Prop := ∃ x y, b = x ++ a ++ y
theorem inf_refl (a : Rw) : inf a a := ⟨[], [], by simp⟩
theorem inf_tr {a b c : Rw} (h1 : inf a b) (h2 : inf b c) : inf a c := by
  obtain ⟨x, y, rfl⟩ := h1
  obtain ⟨z, w, rfl⟩ := h2
  exact ⟨z ++ x, y ++ w, by simp⟩
theorem inf_len {a b : Rw} (h : inf a b) : a.length ≤ b.length := by
  obtain ⟨x, y, rfl⟩ := h
  simp only [List.length_append]; omega
theorem inf_ap {a b : Rw} {bs : List (Nat × Rw)} (h : inf a b) : inf (apL bs a) (apL bs b) := by
  obtain ⟨x, y, rfl⟩ := h
  exact ⟨apL bs x, apL bs y, by rw [apL_app2, apL_app2]⟩
theorem inf_l {c : Nat} {a b : Rw} : inf a (c :: (a ++ b)) := ⟨[c], b, by simp⟩
theorem inf_r {c : Nat} {a b : Rw} : inf b (c :: (a ++ b)) := ⟨c :: a, [], by simp⟩
theorem sb_ne_nil {v : Nat} {t : Rw} (ht : Ty t) : ∀ {r : Rw}, r ≠ [] → sb v t r ≠ []
  | [], h => absurd rfl h
  | c :: r, _ => by
    rw [sb_cons]
    by_cases e : c = v
    · rw [if_pos e]; intro q; exact Ty_ne ht (List.append_eq_nil_iff.mp q).1
    · rw [if_neg e]; intro q; cases (List.append_eq_nil_iff.mp q).1
theorem apL_ne_nil {bs : List (Nat × Rw)} (h : okB bs) : ∀ {r : Rw}, r ≠ [] → apL bs r ≠ [] := by
  induction bs with
  | nil => intro r hr; exact hr
  | cons q bs ih => intro r hr; exact ih (fun z hz => h z (List.mem_cons_of_mem _ hz)) (sb_ne_nil (h q List.mem_cons_self).2 hr)
theorem len_sub : ∀ (K S : List Nat), K.Nodup → (∀ k ∈ K, k ∈ S) → K.length ≤ S.length
  | [], S, _, _ => Nat.zero_le _
  | k :: K, S, hn, hs => by
    have hk := hs k List.mem_cons_self
    have h1 := List.length_erase_of_mem hk
    have h0 : 0 < S.length := List.length_pos_of_mem hk
    rw [List.nodup_cons] at hn
    have := len_sub K (S.erase k) hn.2 fun j hj => (List.mem_erase_of_ne (fun e => hn.1 (by rw [← e]; exact hj))).mpr (hs j (List.mem_cons_of_mem _ hj))
    rw [List.length_cons]; omega
/-- d nodes of Q, all different, in whose types the type of n is -/
def abv (T : Nat → Rw) (Q : Nat → Prop) (n d : Nat) : Prop := ∃ K : List Nat, K.Nodup ∧ K.length = d ∧ ∀ k ∈ K, Q k ∧ ∃ x y, x ≠ [] ∧ T k = x ++ T n ++ y
theorem abv_0 {T : Nat → Rw} {Q : Nat → Prop} {n : Nat} : abv T Q n 0 := ⟨[], List.nodup_nil, rfl, fun k hk => by cases hk⟩
theorem abv_le {T : Nat → Rw} {Q : Nat → Prop} {n d : Nat} (h : abv T Q n d) (S : List Nat) (hS : ∀ k, Q k → k ∈ S) : d ≤ S.length := by
  obtain ⟨K, h1, h2, h3⟩ := h
  rw [← h2]; exact len_sub K S h1 fun k hk => hS k (h3 k hk).1
theorem abv_same {T : Nat → Rw} {Q : Nat → Prop} {n m d : Nat} (e : T n = T m) (h : abv T Q n d) : abv T Q m d := by
  obtain ⟨K, h1, h2, h3⟩ := h
  exact ⟨K, h1, h2, fun k hk => by rw [← e]; exact h3 k hk⟩
theorem abv_down {T : Nat → Rw} {Q : Nat → Prop} {n m i d : Nat} {x y : Rw} (h : abv T Q n d) (hm : Q m) (e : T n = T m) (hx : x ≠ []) (hT : T m = x ++ T i ++ y) : abv T Q i (d + 1) := by
  obtain ⟨K, h1, h2, h3⟩ := h
  refine ⟨m :: K, List.nodup_cons.mpr ⟨fun hmK => ?_, h1⟩, by rw [List.length_cons, h2], fun k hk => ?_⟩
  · obtain ⟨-, z, w, hz, hT2⟩ := h3 m hmK
    rw [e] at hT2
    have := congrArg List.length hT2
    simp only [List.length_append] at this
    have : z.length = 0 := by omega
    exact hz (List.length_eq_zero_iff.mp this)
  · rcases List.mem_cons.mp hk with rfl | hk
    · exact ⟨hm, x, y, hx, hT⟩
    · obtain ⟨hq, z, w, hz, hT2⟩ := h3 k hk
      refine ⟨hq, z ++ x, y ++ w, fun q => hz (List.append_eq_nil_iff.mp q).1, ?_⟩
      rw [hT2, e, hT]; simp
theorem abv_ap {T : Nat → Rw} {Q : Nat → Prop} {n d : Nat} {bs : List (Nat × Rw)} (hb : okB bs) (h : abv T Q n d) : abv (fun n => apL bs (T n)) Q n d := by
  obtain ⟨K, h1, h2, h3⟩ := h
  refine ⟨K, h1, h2, fun k hk => ?_⟩
  obtain ⟨hq, x, y, hx, hT⟩ := h3 k hk
  refine ⟨hq, apL bs x, apL bs y, apL_ne_nil hb hx, ?_⟩
  dsimp only
  rw [hT, apL_app2, apL_app2]
/-! GIVING A NODE TO ANOTHER -/
theorem resolve_self {A : gM} {n : Nat} (hn : n < 2600) (h5 : A 130 n ≠ nI 5) : mX4_resolve A (nI n) = some (A, nI n) := by
  have e45 : mX4_resolve_b45 A (nI n) = some (A, nI n) := by
    unfold mX4_resolve_b45 mX4_resolve_b61
    simp (disch := omega) only [lq2, lq3, lq4, lq5, lq6, lq7, lq8, lq9, lq10, lq11, lq40, lq59, lq60, lq61, lq100, lq500, lq2600, lq5208, lq1000000, ltT, ltF, leT, leF, eqT, eqF, lt0F, le0F, le0T, ge0T, eq0T, eq0F, eqm1F, ten0, m1lt0, eq_self, nI_add, nI_1, sub1, addm1, addm2, subn, cl0, cl1, ncl, ginT, gin0, gin1, if_true, if_false, Nat.add_sub_cancel, obe, ↓gle, true_or, or_true]
  have one : ∀ f, 0 < f → mX4_resolve_L4 f A (nI n) 0 = some (A, nI n) := by
    intro f hf
    cases f with
    | zero => omega
    | succ f =>
      show mX4_resolve_b4 (mX4_resolve_L4 f) A (nI n) 0 = _
      unfold mX4_resolve_b4
      rw [show (0 : Int32) = nI 0 from rfl]
      simp (disch := omega) only [lq2, lq3, lq4, lq5, lq6, lq7, lq8, lq9, lq10, lq11, lq40, lq59, lq60, lq61, lq100, lq500, lq2600, lq5208, lq1000000, ltT, ltF, leT, leF, eqT, eqF, lt0F, le0F, le0T, ge0T, eq0T, eq0F, eqm1F, ten0, m1lt0, eq_self, nI_add, nI_1, sub1, addm1, addm2, subn, cl0, cl1, ncl, ginT, gin0, gin1, if_true, if_false, Nat.add_sub_cancel, obe, ↓gle, true_or, or_true, h5, e45]
  exact one gF (by unfold gF; omega)
def gvA (A : gM) (a b : Nat) : gM := g_up (g_up A 130 a (nI 5)) 131 a (nI b)
theorem give_k {A : gM} {a b m : Nat} (ha : a < 2600) (hm2 : m < 2600) (hres : mX4_resolve A (nI b) = some (A, nI m)) (hm : a ≠ m) : mX4_give A (nI a) (nI b) = some (gvA A a m) := by
  unfold mX4_give mX4_give_b0 mX4_give_b36
  simp (disch := omega) only [lq2, lq3, lq4, lq5, lq6, lq7, lq8, lq9, lq10, lq11, lq40, lq59, lq60, lq61, lq100, lq500, lq2600, lq5208, lq1000000, ltT, ltF, leT, leF, eqT, eqF, lt0F, le0F, le0T, ge0T, eq0T, eq0F, eqm1F, ten0, m1lt0, eq_self, nI_add, nI_1, sub1, addm1, addm2, subn, cl0, cl1, ncl, ginT, gin0, gin1, if_true, if_false, Nat.add_sub_cancel, obe, ↓gle, true_or, or_true, hres]
  rfl
theorem gvA_130 {A : gM} {a b n : Nat} : gvA A a b 130 n = if n = a then nI 5 else A 130 n := by
  unfold gvA
  rw [up_c (by omega), up_get]
  by_cases e : n = a
  · rw [if_pos ⟨rfl, e⟩, if_pos e]
  · rw [if_neg (fun q => e q.2), if_neg e]
theorem gvA_131 {A : gM} {a b n : Nat} : gvA A a b 131 n = if n = a then nI b else A 131 n := by
  unfold gvA
  rw [up_get]
  by_cases e : n = a
  · rw [if_pos ⟨rfl, e⟩, if_pos e]
  · rw [if_neg (fun q => e q.2), if_neg e, up_c (by omega)]
theorem gvA_else {A : gM} {a b x y : Nat} (h1 : x ≠ 130) (h2 : x ≠ 131) : gvA A a b x y = A x y := by
  unfold gvA; rw [up_c h2, up_c h1]
theorem sG_gv {A : gM} {u a b : Nat} (ha : a < u) (h5 : A 130 a ≠ nI 5) : sG (gvA A a b) u = sG A u + 1 := by
  unfold sG
  refine (cnt_dec (m := a) (by rw [gvA_130, if_pos rfl]; exact decide_eq_true rfl) (decide_eq_false h5) (fun n hn => ?_) ha).symm
  rw [gvA_130, if_neg hn]
def chG (A : gM) (ch : Nat → Nat) (n : Nat) : Nat := if A 130 n = nI 5 then ch n + 1 else 0
theorem sT_gv {A : gM} {u : Nat} {T T' : Nat → Rw} {ch : Nat → Nat} {a b : Nat} (h : sT A u T ch) (ha : a < u) (ha2 : 2 ≤ a) (h5 : A 130 a ≠ nI 5) (hb : b < u) (h5b : A 130 b ≠ nI 5) (hab : a ≠ b)
    (t1 : ∀ n, n < 2 → T n = [n] → T' n = [n]) (t2 : ∀ n, n < u → n ≠ a → T n = [100 + n] → T' n = [100 + n]) (t3 : T' a = T' b) (t4 : ∀ n i, T n = T i → T' n = T' i) (t5 : ∀ n c i j, (c = 2 ∨ c = 3) → T n = c :: (T i ++ T j) → T' n = c :: (T' i ++ T' j)) : sT (gvA A a b) u T' (chG (gvA A a b) ch) := by
  refine ⟨by rw [gvA_else (by omega) (by omega)]; exact h.1, h.2.1, h.2.2.1, fun n hn => ?_, fun n hn => ?_⟩
  · by_cases e : n = a
    · subst e
      refine Or.inr (Or.inr (Or.inl ⟨ha2, by rw [gvA_130, if_pos rfl], b, hb, by rw [gvA_131, if_pos rfl], t3, ?_⟩))
      have e1 : chG (gvA A n b) ch b = 0 := if_neg (by rw [gvA_130, if_neg (fun q => hab q.symm)]; exact h5b)
      have e2 : chG (gvA A n b) ch n = ch n + 1 := if_pos (by rw [gvA_130, if_pos rfl])
      omega
    · rcases h.2.2.2.1 n hn with ⟨h2, hk, hT⟩ | ⟨h2, hk, hT⟩ | ⟨h2, hk, i, hi, hl, hT, hc⟩ | ⟨h2, c, i, j, hc, hi, hj, hk, hl, hr, hT⟩
      · exact Or.inl ⟨h2, by rw [gvA_130, if_neg e]; exact hk, t1 n h2 hT⟩
      · exact Or.inr (Or.inl ⟨h2, by rw [gvA_130, if_neg e]; exact hk, t2 n hn e hT⟩)
      · refine Or.inr (Or.inr (Or.inl ⟨h2, by rw [gvA_130, if_neg e]; exact hk, i, hi, by rw [gvA_131, if_neg e]; exact hl, t4 n i hT, ?_⟩))
        have en : chG (gvA A a b) ch n = ch n + 1 := if_pos (by rw [gvA_130, if_neg e]; exact hk)
        have ei : chG (gvA A a b) ch i ≤ ch i + 1 := by unfold chG; split <;> omega
        omega
      · exact Or.inr (Or.inr (Or.inr ⟨h2, c, i, j, hc, hi, hj, by rw [gvA_130, if_neg e]; exact hk, by rw [gvA_131, if_neg e]; exact hl, by rw [gvA_else (by omega) (by omega)]; exact hr, t5 n c i j hc hT⟩))
  · have := h.2.2.2.2 n hn
    have ei : chG (gvA A a b) ch n ≤ ch n + 1 := by unfold chG; split <;> omega
    rw [sG_gv ha h5]; omega
/-- a variable is given a type -/
theorem sT_gvV {A : gM} {u : Nat} {T : Nat → Rw} {ch : Nat → Nat} {a b : Nat} (h : sT A u T ch) (ha : a < u) (ha2 : 2 ≤ a) (h4 : A 130 a = nI 4) (hTa : T a = [100 + a]) (hb : b < u) (h5b : A 130 b ≠ nI 5) (hab : a ≠ b) (hnot : 100 + a ∉ T b) :
    sT (gvA A a b) u (fun n => apL [(100 + a, T b)] (T n)) (chG (gvA A a b) ch) := by
  refine sT_gv h ha ha2 (by rw [h4, Ne, neq (by omega) (by omega)]; omega) hb h5b hab (fun n hn e => ?_) (fun n hn hne e => ?_) ?_ (fun n i e => ?_) (fun n c i j hc e => ?_)
  · show sb (100 + a) (T b) (T n) = _
    rw [e, sb_ne (by omega)]
  · show sb (100 + a) (T b) (T n) = _
    rw [e, sb_ne (by omega)]
  · show sb (100 + a) (T b) (T a) = sb (100 + a) (T b) (T b)
    rw [hTa, sb_one, sb_not hnot]
  · show sb (100 + a) (T b) (T n) = sb (100 + a) (T b) (T i)
    rw [e]
  · show sb (100 + a) (T b) (T n) = c :: (sb (100 + a) (T b) (T i) ++ sb (100 + a) (T b) (T j))
    rw [e, sb_cons, if_neg (by omega), sb_app]; rfl
/-- a pair is given one of the same type -/
theorem sT_gvP {A : gM} {u : Nat} {T : Nat → Rw} {ch : Nat → Nat} {a b c : Nat} (h : sT A u T ch) (ha : a < u) (hk : A 130 a = nI c) (hc : c = 2 ∨ c = 3) (ha2 : 2 ≤ a) (hb : b < u) (h5b : A 130 b ≠ nI 5) (hab : a ≠ b) (e : T a = T b) : sT (gvA A a b) u T (chG (gvA A a b) ch) :=
  sT_gv h ha ha2 (by rw [hk, Ne, neq (by omega) (by omega)]; omega) hb h5b hab (fun _ _ e => e) (fun _ _ _ e => e) e (fun _ _ e => e) (fun _ _ _ _ _ e => e)
