/-! ASKING, on both sides -/
theorem up_up {A : gM} {a x : Nat} {v w : Int32} : g_up (g_up A a x v) a x w = g_up A a x w := by
  funext b y
  rw [up_get, up_get, up_get]
  by_cases q : b = a ∧ y = x
  · rw [if_pos q, if_pos q]
  · rw [if_neg q, if_neg q, if_neg q]
theorem kept_w {A : gM} {p w : Nat} {res : (Nat × Nat) ⊕ Rw} (h : stored A p res) (hw : w < 5) : A (86 + p) w = told res w := by
  have c : w = 0 ∨ w = 1 ∨ w = 2 ∨ w = 3 ∨ w = 4 := by omega
  cases res with
  | inl fq =>
    obtain ⟨f, q⟩ := fq
    obtain ⟨k1, k2, k3, k4, k5, -⟩ := h.1 f q rfl
    rcases c with rfl | rfl | rfl | rfl | rfl
    · exact k1
    · exact k2
    · rw [k3]; exact nI0
    · rw [k4]; exact nI0
    · rw [k5]; exact nI0
  | inr r =>
    obtain ⟨k1, k2, k3, k4, k5, -⟩ := h.2 r rfl
    rcases c with rfl | rfl | rfl | rfl | rfl
    · exact k1
    · exact k2
    · exact k3
    · exact k4
    · exact k5
theorem kept_len {A : gM} {p : Nat} {res : (Nat × Nat) ⊕ Rw} (h : stored A p res) : A (86 + p) 2 = nI (rowOf res).length := by
  cases res with
  | inl fq => exact (h.1 fq.1 fq.2 rfl).2.2.1
  | inr r => exact (h.2 r rfl).2.2.1
theorem kept_row {A : gM} {p : Nat} {res : (Nat × Nat) ⊕ Rw} (h : stored A p res) : rowIn A (45 + p) (rowOf res) := by
  cases res with
  | inl fq => exact (h.1 fq.1 fq.2 rfl).2.2.2.2.2
  | inr r => exact (h.2 r rfl).2.2.2.2.2
theorem rowOf_len {res : (Nat × Nat) ⊕ Rw} (h : resOK res) : (rowOf res).length ≤ 60 := by
  cases res with
  | inl fq => exact Nat.zero_le _
  | inr r => exact (h.2 r rfl).2.1
theorem place_ok' {A : gM} {x : Int32} {n : Nat} {m : Int32} (hn : n ≤ 1000) (hm : m = nI n) (h : inR x n) : mX5_needPlace A x m = some (A, .inl 0) := by rw [hm]; exact place_ok hn h
theorem place_no' {A : gM} {x : Int32} {n : Nat} {m : Int32} (hn : n ≤ 1000) (hm : m = nI n) (h : notR x n) : mX5_needPlace A x m = some (A, .inr 0) := by rw [hm]; exact place_no hn h
def sameA (A A1 : gM) : Prop := ∀ a x, ((a = 1 ∧ x = 1) ∨ (3 ≤ a ∧ a < 43) ∨ (45 ≤ a ∧ a < 85) ∨ (86 ≤ a ∧ a < 126) ∨ 183 ≤ a) → A1 a x = A a x
section AK
variable {A : gM} {cp np s : Nat} {F : Nat → Nat → Int32} {sz dp : Nat → Nat} {res : Nat → (Nat × Nat) ⊕ Rw}
theorem LOK_ask {rC : Option (gM × Int32)} {rR : gM → Option (gM × (Nat × Nat × Nat) × Int32)} (h : INV A cp np s F sz dp res) {A1 : gM} {v : Int32} {s1 : Nat} (e1 : rC = some (g_up A1 192 0 v, 0)) (o1 : sameA A A1) (st : stI A1 s1) (hs1 : s1 ≤ s + 400000) (e2 : ∀ C, INV (g_up C 183 0 0) cp np s1 F sz dp res → ∃ A2 cp' k n, rR C = some (A2, (cp', k, n), v) ∧ costB cp cp' k n 200 12000 ∧ offA 193 (g_up C 183 0 0) A2 ∧ rO A2 cp') : LOK cp s rC rR := by
  have hB : INV (g_up (g_up A1 192 0 v) 183 0 0) cp np s1 F sz dp res := INV_off h (fun a x q => by rw [up_get, if_neg (by omega), up_get, if_neg (by omega)]; exact o1 a x (by omega)) h.2.2.2.1 (fun i hi => by rw [up_c (by omega), up_c (by omega), o1 _ _ (by omega)]; exact h.2.2.2.2.1 i hi) (stI_off st (by rw [up_c (by omega), up_c (by omega)]) (funext fun x => by rw [up_c (by omega), up_c (by omega)]))
  obtain ⟨A2, cp', k, n, q1, q2, q3, q4⟩ := e2 _ hB
  exact ⟨_, 0, e1, A2, cp', k, n, v, q1, by rw [q3 _ _ (by omega), up_s], fun _ => by rw [q3 _ _ (by omega), up_c (by omega), up_s], q2, np, s1, F, sz, dp, res, INV_off hB (fun a x q => q3 _ _ (by omega)) q2.1 q4 (stI_off hB.2.2.2.2.2.1 (q3 _ _ (by omega)) (funext fun x => q3 _ _ (by omega))), hs1⟩
theorem LOK_no {rC : Option (gM × Int32)} {rR : gM → Option (gM × (Nat × Nat × Nat) × Int32)} (h : INV A cp np s F sz dp res) (e1 : rC = some (A, 1)) (e2 : rR A = some (g_up A 183 0 1, (cp, 0, 0), 0)) : LOK cp s rC rR := LOK_fail h (kk := 1) (by omega) (by omega) e1 (by rw [up_up]; exact e2)
theorem LOK_no2 {rC : Option (gM × Int32)} {rR : gM → Option (gM × (Nat × Nat × Nat) × Int32)} (h : INV A cp np s F sz dp res) (e1 : rC = some (A, 1)) (e2 : ∀ C, INV (g_up C 183 0 0) cp np s F sz dp res → ∃ A2 cp' k n r, rR C = some (g_up A2 183 0 1, (cp', k, n), r) ∧ costB cp cp' k n 200 12000 ∧ offA 193 (g_up C 183 0 0) A2 ∧ rO A2 cp') : LOK cp s rC rR := by
  have hB : INV (g_up A 183 0 0) cp np s F sz dp res := INV_off h (fun a x q => by rw [up_get, if_neg (by omega)]) h.2.2.2.1 (fun i hi => by rw [up_c (by omega)]; exact h.2.2.2.2.1 i hi) (stI_off h.2.2.2.2.2.1 (by rw [up_c (by omega)]) (funext fun x => by rw [up_c (by omega)]))
  obtain ⟨A2, cp', k, n, r, q1, q2, q3, q4⟩ := e2 _ hB
  refine ⟨_, 1, e1, _, cp', k, n, r, q1, up_s, fun q => absurd q (by decide), q2, np, s, F, sz, dp, res, INV_off hB (fun a x q => by rw [up_get, if_neg (by omega)]; exact q3 _ _ (by omega)) q2.1 (fun i hi => by rw [up_c (by omega)]; exact q4 i hi) (stI_off hB.2.2.2.2.2.1 (by rw [up_c (by omega)]; exact q3 _ _ (by omega)) (funext fun x => by rw [up_c (by omega)]; exact q3 _ _ (by omega))), by omega⟩
theorem inv_in {A : gM} {cp np s p : Nat} {F : Nat → Nat → Int32} {sz dp : Nat → Nat} {res : Nat → (Nat × Nat) ⊕ Rw} (h : INV A cp np s F sz dp res) (hp : p < np) : stored A p (res p) ∧ resOK (res p) ∧ p < 40 := ⟨(h.2.2.2.2.2.2.1 p hp).2.2, (h.2.2.2.2.2.2.2 p hp).2.2.2.2.2.2.2, by have := h.2.1; omega⟩
theorem up0 {C : gM} {cp np s : Nat} {F : Nat → Nat → Int32} {sz dp : Nat → Nat} {res : Nat → (Nat × Nat) ⊕ Rw} (h : INV (g_up C 183 0 0) cp np s F sz dp res) : C 183 1 = nI np := by have := h.2.2.1; rw [up_p (by omega)] at this; exact this
/-- two places of parts, or a fault -/
theorem k_undo (h : INV A cp np s F sz dp res) : LOK cp s (mL_undo A) (fun B => (mX6_undo cp B).bind fun q => some (q.1, (cp, 0, 0), q.2)) := by
  have hn := h.2.1
  by_cases e : np = 0
  · refine LOK_no h ?_ ?_
    · have t : mX5_undo A = some (A, .inr 2) := by
        unfold mX5_undo mX5_undo_b0 mX2_made mX2_made_b0
        rw [obe]
        dsimp only
        rw [gle, h.1, e, if_neg (by decide +kernel)]
      unfold mL_undo mL_undo_b0
      rw [bnd t]
      dsimp only [g_ct]
      simp only [↓reduceIte]
    · have t : mX6_undo cp A = some (g_up A 183 0 1, 0) := by
        unfold mX6_undo mX6_undo_b0
        rw [gle, up_p (by omega), h.2.2.1, e, if_pos nI0, rfail0, obe, up_up]
      show (mX6_undo cp A).bind _ = _
      rw [bnd t]
  · have t : mX5_undo A = some (g_up A 1 1 (nI (np - 1)), .inl (nI (np - 1))) := by
      have d : mX2_dropLast A = some (g_up A 1 1 (nI (np - 1))) := by
        unfold mX2_dropLast mX2_dropLast_b0 mX2_dropLast_b17
        rw [h.1, if_neg (by rw [le0F (by omega) (by omega)]; exact not_false), gle, sub1 (by omega)]
      unfold mX5_undo mX5_undo_b0 mX2_made mX2_made_b0
      rw [obe]
      dsimp only
      rw [gle, h.1, sub1 (by omega), if_pos (by rw [ge0T (by omega)]; trivial), bnd d]
    refine ⟨g_up (g_up A 1 1 (nI (np - 1))) 192 0 (nI (np - 1)), 0, ?_, g_up (g_up (g_up (g_up A 1 1 (nI (np - 1))) 192 0 (nI (np - 1))) 183 0 0) 183 1 (nI (np - 1)), cp, 0, 0, nI (np - 1), ?_, ?_, ?_, ⟨h.2.2.2.1, by omega, by omega, by omega⟩, np - 1, s, F, sz, dp, res, ?_, by omega⟩
    · unfold mL_undo mL_undo_b0
      rw [bnd t]
      dsimp only [g_ct]
      rw [if_pos (by decide), gle, cl0]
    · have t2 : mX6_undo cp (g_up (g_up A 1 1 (nI (np - 1))) 192 0 (nI (np - 1))) = some (g_up (g_up (g_up (g_up A 1 1 (nI (np - 1))) 192 0 (nI (np - 1))) 183 0 0) 183 1 (nI (np - 1)), nI (np - 1)) := by
        unfold mX6_undo mX6_undo_b0
        rw [gle, up_p (by omega), up_c (by omega), up_c (by omega), h.2.2.1, if_neg (by rw [eq0F (by omega) (by omega)]; exact not_false), gle, sub1 (by omega), up_s]
      show (mX6_undo cp _).bind _ = _
      rw [bnd t2]
    · rw [up_p (by omega), up_s]
    · intro _
      rw [up_c (by omega), up_c (by omega), up_s]
    · obtain ⟨h1, h2, h3, h4, h5, h6, h7, h8⟩ := h
      have o : ∀ a x, a ≠ 1 → a ≠ 192 → a ≠ 183 → g_up (g_up (g_up (g_up A 1 1 (nI (np - 1))) 192 0 (nI (np - 1))) 183 0 0) 183 1 (nI (np - 1)) a x = A a x := fun a x q1 q2 q3 => by rw [up_c q3, up_c q3, up_c q2, up_c q1]
      refine ⟨by rw [up_c (by omega), up_c (by omega), up_c (by omega), up_s], by omega, up_s, h4, fun i hi => by rw [o _ _ (by omega) (by omega) (by omega)]; exact h5 i hi, stI_off h6 (o _ _ (by omega) (by omega) (by omega)) (funext fun x => o _ _ (by omega) (by omega) (by omega)), fun p hp => ⟨fun w hw => by rw [o _ _ (by omega) (by omega) (by omega), o _ _ (by omega) (by omega) (by omega)]; exact (h7 p (by omega)).1 w hw, by rw [o _ _ (by omega) (by omega) (by omega)]; exact (h7 p (by omega)).2.1, stored_off (by omega) (fun x => o _ _ (by omega) (by omega) (by omega)) (fun x => o _ _ (by omega) (by omega) (by omega)) (h7 p (by omega)).2.2⟩, fun p hp => h8 p (by omega)⟩
theorem depth_in {rec : gM → Int32 → Option (gM × Int32)} {B : gM} {p : Nat} {x : Int32} (hp : p ≤ 40) (hx : kid p x) (hd : ∀ c, c < p → rec B (nI c) = some (B, nI (dp c)) ∧ dp c ≤ 100) {j m : Nat} (hj : j < 3) (hF : B 184 (6 * p + (1 + j)) = x) (hm : m ≤ 100) (K : gM → Int32 → Int32 → Int32 → Option (gM × Int32)) : mX6_depth_b4 cp rec K B (nI p) (nI m) (nI j) = K B (nI p) (nI (max m (szk dp x))) (nI (j + 1)) ∧ max m (szk dp x) ≤ 100 := by
  have e : mX6_pa cp B (nI p) (1 + nI j) = some (B, x) := by rw [one_nI, nI_add, pa_w hp (by omega), hF]
  unfold mX6_depth_b4 mX6_depth_b38
  rw [lq3, if_neg (by rw [nle (by omega) (by omega)]; omega), bnd e]
  dsimp only
  rcases hx with rfl | ⟨c, hc, rfl⟩
  · rw [if_pos rfl, gle, nI_1, szk_n, Nat.max_eq_left (by omega)]
    exact ⟨rfl, hm⟩
  · obtain ⟨d1, d2⟩ := hd c hc
    rw [if_neg (by rw [eqm1F (by omega)]; exact not_false), bnd e]
    dsimp only
    rw [bnd d1]
    dsimp only
    rw [gle, gle, nI_1, max_n (by omega) (by omega), szk_c (by omega)]
    exact ⟨rfl, by omega⟩
theorem depth6_ok {B : gM} (hn : np ≤ 40) (hB : ∀ p, p < np → ∀ w, w < 6 → B 184 (6 * p + w) = F p w) (hk : PW np F sz dp res) : ∀ (f p : Nat), p < np → p < f → mX6_depth cp f B (nI p) = some (B, nI (dp p))
  | 0, p, _, hf => by omega
  | f + 1, p, hp, hf => by
    obtain ⟨-, -, -, ⟨k1, k2, k3⟩, g7, g8, -⟩ := hk p hp
    have hd : ∀ c, c < p → mX6_depth cp f B (nI c) = some (B, nI (dp c)) ∧ dp c ≤ 100 := fun c hc => ⟨depth6_ok hn hB hk f c (by omega) (by omega), by have := (hk c (by omega)).2.2.2.2.2.1; omega⟩
    obtain ⟨g, hg⟩ : ∃ g, gF = g + 4 := ⟨999998, by unfold gF; rfl⟩
    obtain ⟨a1, a2⟩ := depth_in (cp := cp) (j := 0) (m := 0) (by omega) k1 hd (by omega) (hB p hp 1 (by omega)) (by omega) (mX6_depth_L4 cp (mX6_depth cp f) (g + 3))
    obtain ⟨b1, b2⟩ := depth_in (cp := cp) (j := 1) (by omega) k2 hd (by omega) (hB p hp 2 (by omega)) a2 (mX6_depth_L4 cp (mX6_depth cp f) (g + 2))
    obtain ⟨c1, c2⟩ := depth_in (cp := cp) (j := 2) (by omega) k3 hd (by omega) (hB p hp 3 (by omega)) b2 (mX6_depth_L4 cp (mX6_depth cp f) (g + 1))
    show mX6_depth_L4 cp (mX6_depth cp f) gF B (nI p) 0 0 = _
    rw [hg, ← nI0]
    refine a1.trans (b1.trans (c1.trans ?_))
    show mX6_depth_b4 cp (mX6_depth cp f) (mX6_depth_L4 cp (mX6_depth cp f) g) B (nI p) (nI (max (max (max 0 (szk dp (F p 1))) (szk dp (F p 2))) (szk dp (F p 3)))) (nI (2 + 1)) = _
    unfold mX6_depth_b4
    rw [lq3, if_pos (by rw [nle (by omega) (by omega)]; omega), nI_1, g7]
    congr 3
    omega
theorem k_part (h : INV A cp np s F sz dp res) (x1 x2 : Int32) : LOK cp s (mL_part A x1 x2) (fun B => (mX6_part cp B x1 x2).bind fun q => some (q.1, (cp, 0, 0), q.2)) := by
  have hn := h.2.1
  have hA0 : g_up A 183 0 0 183 1 = nI np := by rw [up_p (by omega)]; exact h.2.2.1
  rcases inR_dec x1 np with i1 | i1
  rotate_left
  · refine LOK_no h ?_ ?_
    · have t : mX5_part A x1 x2 = some (A, .inr 0) := by
        unfold mX5_part mX5_part_b0
        rw [bnd (part_no h.1 hn i1)]
        all_goals rfl
      unfold mL_part mL_part_b0
      rw [bnd t]
      dsimp only [g_ct]
      simp only [↓reduceIte]
    · have t : mX6_part cp A x1 x2 = some (g_up A 183 0 1, 0) := by
        unfold mX6_part mX6_part_b0 mX6_part_b32 mX6_part_b37
        rw [gle, bnd (isPart_no hA0 hn i1)]
        dsimp only
        rw [if_pos rfl, rfail0, obe, up_up]
      show (mX6_part cp A x1 x2).bind _ = _
      rw [bnd t]
  rcases inR_dec x2 7 with i2 | i2
  rotate_left
  · refine LOK_no h ?_ ?_
    · have t : mX5_part A x1 x2 = some (A, .inr 0) := by
        unfold mX5_part mX5_part_b0
        rw [bnd (part_ok h.1 hn i1)]
        dsimp only [g_tr]
        rw [bnd (place_no' (n := 7) (by omega) lq7 i2)]
        all_goals rfl
      unfold mL_part mL_part_b0
      rw [bnd t]
      dsimp only [g_ct]
      simp only [↓reduceIte]
    · have t : mX6_part cp A x1 x2 = some (g_up A 183 0 1, 0) := by
        unfold mX6_part mX6_part_b0 mX6_part_b32 mX6_part_b37
        rw [gle, bnd (isPart_ok hA0 hn i1)]
        dsimp only
        rw [if_neg (by decide), bnd (isIn_no (n := 7) (by omega) (by decide +kernel) i2)]
        dsimp only
        rw [if_pos rfl, rfail0, obe, up_up]
      show (mX6_part cp A x1 x2).bind _ = _
      rw [bnd t]
  obtain ⟨p, hp, rfl⟩ := id i1
  obtain ⟨w, hw, rfl⟩ := id i2
  refine LOK_ask (v := A (3 + p) w) (A1 := A) (s1 := s) h ?_ (fun a x _ => rfl) h.2.2.2.2.2.1 (by omega) (fun C hC => ?_)
  · have t : mX5_part A (nI p) (nI w) = some (A, .inl (A (3 + p) w)) := by
      unfold mX5_part mX5_part_b0
      rw [bnd (part_ok h.1 hn i1)]
      dsimp only [g_tr]
      rw [bnd (place_ok' (n := 7) (by omega) lq7 i2)]
      dsimp only [g_tr]
      rw [bnd (fact_w h.1 hp hn hw)]
    unfold mL_part mL_part_b0
    rw [bnd t]
    dsimp only [g_ct]
    rw [if_pos (by decide), gle, cl0]
  · have hB := INV_RM hC
    have hk := hC.2.2.2.2.2.2.2
    have hv : mX6_partTold cp (g_up C 183 0 0) (nI p) (nI w) = some (g_up C 183 0 0, A (3 + p) w) := by
      unfold mX6_partTold mX6_partTold_b0 mX6_partTold_b20
      by_cases e : w = 6
      · subst e
        rw [lq6, if_pos (by rw [nle (by omega) (by omega)]; omega), bnd (depth6_ok hn hB.2.2.2.2.1 hk 45 p hp (by omega)), (h.2.2.2.2.2.2.1 p hp).2.1]
      · rw [lq6, if_neg (by rw [nle (by omega) (by omega)]; omega), bnd (pa_w (by omega) (by omega)), hB.2.2.2.2.1 p hp w (by omega), ((h.2.2.2.2.2.2.1 p hp).1 w (by omega)).1]
    refine ⟨g_up C 183 0 0, cp, 0, 0, ?_, ⟨h.2.2.2.1, by omega, by omega, by omega⟩, fun a x _ => rfl, hC.2.2.2.2.1⟩
    have t : mX6_part cp C (nI p) (nI w) = some (g_up C 183 0 0, A (3 + p) w) := by
      unfold mX6_part mX6_part_b0 mX6_part_b37
      rw [gle, bnd (isPart_ok hC.2.2.1 hn i1)]
      dsimp only
      rw [if_neg (by decide), bnd (isIn_ok (n := 7) (by omega) (by decide +kernel) i2)]
      dsimp only
      rw [if_neg (by decide), bnd hv]
    show (mX6_part cp C (nI p) (nI w)).bind _ = _
    rw [bnd t]
theorem k_type (h : INV A cp np s F sz dp res) (x1 x2 : Int32) : LOK cp s (mL_type A x1 x2) (fun B => mX6_type 193 cp B x1 x2) := by
  have hn := h.2.1
  have hA0 : g_up A 183 0 0 183 1 = nI np := by rw [up_p (by omega)]; exact h.2.2.1
  rcases inR_dec x1 np with i1 | i1
  rotate_left
  · refine LOK_no h ?_ ?_
    · have t : mX5_type A x1 x2 = some (A, .inr 0) := by
        unfold mX5_type mX5_type_b0
        rw [bnd (part_no h.1 hn i1)]
        all_goals rfl
      unfold mL_type mL_type_b0
      rw [bnd t]
      dsimp only [g_ct]
      simp only [↓reduceIte]
    · show mX6_type 193 cp A x1 x2 = _
      unfold mX6_type mX6_type_b0 mX6_type_b31 mX6_type_b36
      rw [gle, bnd (isPart_no hA0 hn i1)]
      dsimp only
      rw [if_pos rfl, rfail0, obe, up_up]
  rcases inR_dec x2 5 with i2 | i2
  rotate_left
  · refine LOK_no h ?_ ?_
    · have t : mX5_type A x1 x2 = some (A, .inr 0) := by
        unfold mX5_type mX5_type_b0
        rw [bnd (part_ok h.1 hn i1)]
        dsimp only [g_tr]
        rw [bnd (place_no' (n := 5) (by omega) lq5 i2)]
        all_goals rfl
      unfold mL_type mL_type_b0
      rw [bnd t]
      dsimp only [g_ct]
      simp only [↓reduceIte]
    · show mX6_type 193 cp A x1 x2 = _
      unfold mX6_type mX6_type_b0 mX6_type_b31 mX6_type_b36
      rw [gle, bnd (isPart_ok hA0 hn i1)]
      dsimp only
      rw [if_neg (by decide), bnd (isIn_no (n := 5) (by omega) (by decide +kernel) i2)]
      dsimp only
      rw [if_pos rfl, rfail0, obe, up_up]
  obtain ⟨p, hp, rfl⟩ := id i1
  obtain ⟨w, hw, rfl⟩ := id i2
  obtain ⟨g1, g2, g3⟩ := inv_in h hp
  refine LOK_ask (v := told (res p) w) (A1 := A) (s1 := s) h ?_ (fun a x _ => rfl) h.2.2.2.2.2.1 (by omega) (fun C hC => ?_)
  · have t : mX5_type A (nI p) (nI w) = some (A, .inl (told (res p) w)) := by
      unfold mX5_type mX5_type_b0
      rw [bnd (part_ok h.1 hn i1)]
      dsimp only [g_tr]
      rw [bnd (place_ok' (n := 5) (by omega) lq5 i2)]
      dsimp only [g_tr]
      rw [bnd (fact3_w g3 hw), kept_w g1 hw]
    unfold mL_type mL_type_b0
    rw [bnd t]
    dsimp only [g_ct]
    rw [if_pos (by decide), gle, cl0]
  · obtain ⟨A', cp', k, n, e1, e2, e3, e4⟩ := typeTold_ok (N := 193) (w := w) (Nat.le_refl _) (by omega) hw (INV_RI hC hp)
    refine ⟨A', cp', 0 + k, 0 + n, ?_, by rw [Nat.zero_add, Nat.zero_add]; exact costB_le e2 (by omega) (by omega), e3, e4⟩
    unfold mX6_type mX6_type_b0 mX6_type_b28 mX6_type_b36
    rw [gle, bnd (isPart_ok hC.2.2.1 hn i1)]
    dsimp only
    rw [if_neg (by decide), bnd (isIn_ok (n := 5) (by omega) (by decide +kernel) i2)]
    dsimp only
    rw [if_neg (by decide), bnd e1]
theorem k_code (h : INV A cp np s F sz dp res) (x1 x2 : Int32) : LOK cp s (mL_code A x1 x2) (fun B => mX6_code 193 cp B x1 x2) := by
  have hn := h.2.1
  have hA0 : g_up A 183 0 0 183 1 = nI np := by rw [up_p (by omega)]; exact h.2.2.1
  rcases inR_dec x1 np with i1 | i1
  rotate_left
  · refine LOK_no h ?_ ?_
    · have t : mX5_code A x1 x2 = some (A, .inr 0) := by
        unfold mX5_code mX5_code_b0
        rw [bnd (part_no h.1 hn i1)]
        all_goals rfl
      unfold mL_code mL_code_b0
      rw [bnd t]
      dsimp only [g_ct]
      simp only [↓reduceIte]
    · show mX6_code 193 cp A x1 x2 = _
      unfold mX6_code mX6_code_b0
      rw [gle, bnd (isPart_no hA0 hn i1)]
      dsimp only
      rw [if_pos rfl, rfail0, obe, up_up]
  obtain ⟨p, hp, rfl⟩ := id i1
  obtain ⟨g1, g2, g3⟩ := inv_in h hp
  have gl := rowOf_len g2
  have ef := fact3_2 (A := A) g3
  rw [kept_len g1] at ef
  rcases inR_dec x2 (rowOf (res p)).length with i2 | i2
  rotate_left
  · refine LOK_no2 h ?_ (fun C hC => ?_)
    · have t : mX5_code A (nI p) x2 = some (A, .inr 0) := by
        unfold mX5_code mX5_code_b0
        rw [bnd (part_ok h.1 hn i1)]
        dsimp only [g_tr]
        rw [bnd ef]
        dsimp only
        rw [bnd (place_no (by omega) i2)]
        all_goals rfl
      unfold mL_code mL_code_b0
      rw [bnd t]
      dsimp only [g_ct]
      simp only [↓reduceIte]
    · obtain ⟨A', cp', k, n, e1, e2, e3, e4, -⟩ := row_ok (N := 193) (Nat.le_refl _) (by omega) (INV_RI hC hp)
      refine ⟨A', cp', 0 + k, 0 + n, 0, ?_, by rw [Nat.zero_add, Nat.zero_add]; exact costB_le e2 (by omega) (by omega), e3, e4⟩
      show mX6_code 193 cp C (nI p) x2 = _
      unfold mX6_code mX6_code_b0 mX6_code_b24 mX6_code_b48
      rw [gle, bnd (isPart_ok hC.2.2.1 hn i1)]
      dsimp only
      rw [if_neg (by decide), bnd e1]
      dsimp only
      rw [bnd (isIn_no (n := (rowOf (res p)).length) (by omega) (by rw [ofN]) i2)]
      dsimp only
      rw [if_pos rfl, rfail0, obe]
  obtain ⟨w, hw, rfl⟩ := id i2
  obtain ⟨c, hc⟩ : ∃ c, (rowOf (res p))[w]? = some c := ⟨_, List.getElem?_eq_getElem hw⟩
  refine LOK_ask (v := nI c) (A1 := A) (s1 := s) h ?_ (fun a x _ => rfl) h.2.2.2.2.2.1 (by omega) (fun C hC => ?_)
  · have t : mX5_code A (nI p) (nI w) = some (A, .inl (nI c)) := by
      unfold mX5_code mX5_code_b0
      rw [bnd (part_ok h.1 hn i1)]
      dsimp only [g_tr]
      rw [bnd ef]
      dsimp only
      rw [bnd (place_ok (by omega) i2)]
      dsimp only [g_tr]
      rw [bnd (codeAt_k g3 (by omega)), kept_row g1 w c hc]
    unfold mL_code mL_code_b0
    rw [bnd t]
    dsimp only [g_ct]
    rw [if_pos (by decide), gle, cl0]
  · obtain ⟨A', cp', k, n, e1, e2, e3, e4, e5⟩ := row_ok (N := 193) (Nat.le_refl _) (by omega) (INV_RI hC hp)
    refine ⟨A', cp', 0 + k, 0 + n, ?_, by rw [Nat.zero_add, Nat.zero_add]; exact costB_le e2 (by omega) (by omega), e3, e4⟩
    show mX6_code 193 cp C (nI p) (nI w) = _
    unfold mX6_code mX6_code_b0 mX6_code_b24 mX6_code_b48
    rw [gle, bnd (isPart_ok hC.2.2.1 hn i1)]
    dsimp only
    rw [if_neg (by decide), bnd e1]
    dsimp only
    rw [bnd (isIn_ok (n := (rowOf (res p)).length) (by omega) (by rw [ofN]) i2)]
    dsimp only
    rw [if_neg (by decide), ginT (by omega) (by omega), if_pos rfl, ncl (by omega), e5 w c hc]
end AK
