/-! COUNTING, AND THE SAME TYPE -/
def cntw (res : Nat → (Nat × Nat) ⊕ Rw) (w : Nat) : Nat → Nat
  | 0 => 0
  | i + 1 => cntw res w i + (if w = 0 ∨ told (res i) 0 = nI w - 1 then 1 else 0)
theorem cntw_le {res : Nat → (Nat × Nat) ⊕ Rw} {w : Nat} : ∀ i, cntw res w i ≤ i
  | 0 => Nat.le_refl 0
  | i + 1 => by
    show cntw res w i + _ ≤ _
    have := cntw_le (res := res) (w := w) i
    split <;> omega
theorem cntw_0 {res : Nat → (Nat × Nat) ⊕ Rw} : ∀ i, cntw res 0 i = i
  | 0 => rfl
  | i + 1 => by
    show cntw res 0 i + _ = _
    rw [if_pos (Or.inl rfl), cntw_0 i]
section CN
variable {A C : gM} {cp np s : Nat} {F : Nat → Nat → Int32} {sz dp : Nat → Nat} {res : Nat → (Nat × Nat) ⊕ Rw}
theorem typeOf_f {N p : Nat} {r : (Nat × Nat) ⊕ Rw} (hp : p ≤ 40) (h : RI A cp F p r) : ∃ A' cp' k n v, mX6_typeOf N cp A (nI p) = some (A', (cp', k, n), v) ∧ costB cp cp' k n 0 0 ∧ offA N A A' ∧ rO A' cp' ∧ A' 183 12 = told r 0 := by
  obtain ⟨A', cp', k, n, v, e1, e2, e3, e4, e5⟩ := typeOf_ok (N := N) hp h
  refine ⟨A', cp', k, n, v, e1, costB_of e2, offA_R e3, e4, ?_⟩
  rcases e5 with ⟨f, q, rfl, -, g, -⟩ | ⟨r', ur, Tr, chr, rr, rfl, -, -, -, -, -, -, g, -⟩
  · exact g
  · exact g
theorem RI_at (h : INV C cp np s F sz dp res) {B : gM} {cp' p : Nat} (o : offA 193 C B) (hc : okc cp') (hO : rO B cp') (hp : p < np) : RI B cp' F p (res p) := RI_off o hc hO (INV_RI h hp)
theorem cnt5_L (h : INV A cp np s F sz dp res) {w : Nat} (hw : 1 ≤ w) : ∀ f i, i ≤ np → np - i < f → mX5_counted_L16 f A (nI w) (nI (cntw res w i)) (nI i) = some (A, nI (cntw res w np))
  | 0, i, _, hf => by omega
  | f + 1, i, hi, hf => by
    have hn := h.2.1
    have b := cntw_le (res := res) (w := w) i
    show mX5_counted_b16 (mX5_counted_L16 f) A (nI w) (nI (cntw res w i)) (nI i) = _
    unfold mX5_counted_b16 mX5_counted_b45 mX2_made mX2_made_b0
    rw [obe]
    dsimp only
    rw [h.1]
    by_cases e : i = np
    · rw [if_pos (by rw [nle (by omega) (by omega)]; omega), e]
    · obtain ⟨g1, g2, g3⟩ := inv_in h (show i < np by omega)
      rw [if_neg (by rw [nle (by omega) (by omega)]; omega), bnd (fact3_0 g3), kept_w g1 (by omega)]
      dsimp only
      have ih := cnt5_L h hw f (i + 1) (by omega) (by omega)
      have ex : cntw res w (i + 1) = cntw res w i + (if w = 0 ∨ told (res i) 0 = nI w - 1 then 1 else 0) := rfl
      by_cases q : told (res i) 0 = nI w - 1
      · rw [if_pos (Or.inr q)] at ex
        rw [if_pos q, gle, gle, nI_1, nI_1, ← ex, ih]
      · have ex2 : cntw res w (i + 1) = cntw res w i := ex.trans (by rw [if_neg (fun z => z.elim (fun z => absurd z (by omega)) q)]; all_goals rfl)
        rw [ex2] at ih
        rw [if_neg q, gle, nI_1, ih]
theorem cnt5_ok (h : INV A cp np s F sz dp res) {w : Nat} (hw : w < 10) : mX5_counted A (nI w) = some (A, nI (cntw res w np)) := by
  unfold mX5_counted mX5_counted_b0
  by_cases e : w = 0
  · subst e
    unfold mX2_made mX2_made_b0
    rw [if_pos nI0, obe, h.1, cntw_0]
  · have := cnt5_L h (w := w) (by omega) gF 0 (by omega) (by have := h.2.1; unfold gF; omega)
    rw [if_neg (by rw [eq0F (by omega) (by omega)]; exact not_false)]
    exact this
theorem cnt6_L (h : INV C cp np s F sz dp res) {w : Nat} (hw : w < 10) : ∀ f i (B : gM) (cp1 k n : Nat), i ≤ np → np - i < f → offA 193 C B → okc cp1 → rO B cp1 → ∃ B' cp' k' n', mX6_counted_L4 193 f cp1 k n B (nI w) (nI (cntw res w i)) (nI i) = some (B', (cp', k + k', n + n'), nI (cntw res w np)) ∧ costB cp1 cp' k' n' 0 0 ∧ offA 193 C B' ∧ rO B' cp'
  | 0, i, _, _, _, _, _, hf, _, _, _ => by omega
  | f + 1, i, B, cp1, k, n, hi, hf, o, hc, hO => by
    have hn := h.2.1
    have b := cntw_le (res := res) (w := w) i
    have h1 : B 183 1 = nI np := by rw [o _ _ (by omega)]; exact h.2.2.1
    by_cases e : i = np
    · refine ⟨B, cp1, 0, 0, ?_, ⟨hc, by omega, by omega, by omega⟩, o, hO⟩
      show mX6_counted_b4 193 cp1 k n (mX6_counted_L4 193 f) B (nI w) (nI (cntw res w i)) (nI i) = _
      unfold mX6_counted_b4
      rw [h1, if_pos (by rw [nle (by omega) (by omega)]; omega), e]
      rfl
    · have ex : cntw res w (i + 1) = cntw res w i + (if w = 0 ∨ told (res i) 0 = nI w - 1 then 1 else 0) := rfl
      by_cases z : w = 0
      · obtain ⟨B', cp', k', n', e1, e2, e3, e4⟩ := cnt6_L h hw f (i + 1) B cp1 k n (by omega) (by omega) o hc hO
        refine ⟨B', cp', k', n', ?_, e2, e3, e4⟩
        show mX6_counted_b4 193 cp1 k n (mX6_counted_L4 193 f) B (nI w) (nI (cntw res w i)) (nI i) = _
        unfold mX6_counted_b4 mX6_counted_b22 mX6_counted_b37 mX6_counted_b42
        rw [if_pos (Or.inl z)] at ex
        rw [h1, if_neg (by rw [nle (by omega) (by omega)]; omega), if_pos (by rw [le0T z]; trivial), if_pos (by rw [eq0T z]; trivial), gle, gle, nI_1, nI_1, ← ex, e1]
      · obtain ⟨B1, cp2, k1, n1, v, d1, d2, d3, d4, d5⟩ := typeOf_f (N := 193) (by omega) (RI_at h o hc hO (show i < np by omega))
        obtain ⟨B', cp', k', n', e1, e2, e3, e4⟩ := cnt6_L h hw f (i + 1) B1 cp2 (k + k1) (n + n1) (by omega) (by omega) (offA_tr o d3) d2.1 d4
        refine ⟨B', cp', k1 + k', n1 + n', ?_, costB_tr d2 e2, e3, e4⟩
        show mX6_counted_b4 193 cp1 k n (mX6_counted_L4 193 f) B (nI w) (nI (cntw res w i)) (nI i) = _
        unfold mX6_counted_b4 mX6_counted_b21 mX6_counted_b22 mX6_counted_b37 mX6_counted_b42
        rw [h1, if_neg (by rw [nle (by omega) (by omega)]; omega), if_neg (by rw [le0F (by omega) (by omega)]; exact not_false), bnd d1]
        dsimp only
        rw [if_neg (by rw [eq0F (by omega) (by omega)]; exact not_false), ← Nat.add_assoc, ← Nat.add_assoc]
        by_cases q : told (res i) 0 = nI w - 1
        · rw [if_pos (Or.inr q)] at ex
          rw [if_pos (d5.trans q), gle, gle, nI_1, nI_1, ← ex, e1]
        · replace ex := ex.trans (by rw [if_neg (fun z' => z'.elim (fun z' => absurd z' z) q)])
          rw [if_neg (fun y => q (d5.symm.trans y)), gle, gle, nI_1, show nI (cntw res w i) + 0 = nI (cntw res w (i + 1)) by rw [← nI0, nI_add, ex, Nat.add_zero], e1]
theorem cnt6_ok (h : INV C cp np s F sz dp res) {w : Nat} (hw : w < 10) {B : gM} {cp1 : Nat} (o : offA 193 C B) (hc : okc cp1) (hO : rO B cp1) : ∃ B' cp' k' n', mX6_counted 193 cp1 B (nI w) = some (B', (cp', k', n'), nI (cntw res w np)) ∧ costB cp1 cp' k' n' 0 0 ∧ offA 193 C B' ∧ rO B' cp' := by
  obtain ⟨B', cp', k', n', e1, e2, e3, e4⟩ := cnt6_L h hw gF 0 B cp1 0 0 (by omega) (by have := h.2.1; unfold gF; omega) o hc hO
  refine ⟨B', cp', k', n', ?_, e2, e3, e4⟩
  unfold mX6_counted mX6_counted_b0
  rw [Nat.zero_add, Nat.zero_add] at e1
  exact e1
theorem k_count (h : INV A cp np s F sz dp res) (x1 : Int32) : LOK cp s (mL_count A x1) (fun B => mX6_count 193 cp B x1) := by
  rcases inR_dec x1 6 with i1 | i1
  rotate_left
  · refine LOK_no h ?_ ?_
    · have t : mX5_count A x1 = some (A, .inr 0) := by
        unfold mX5_count mX5_count_b0
        rw [bnd (place_no' (n := 6) (by omega) lq6 i1)]
        all_goals rfl
      unfold mL_count mL_count_b0
      rw [bnd t]
      dsimp only [g_ct]
      simp only [↓reduceIte]
    · show mX6_count 193 cp A x1 = _
      unfold mX6_count mX6_count_b0 mX6_count_b27
      rw [gle, bnd (isIn_no (n := 6) (by omega) (by decide +kernel) i1)]
      dsimp only
      rw [if_pos rfl, rfail0, obe, up_up]
  obtain ⟨w, hw, rfl⟩ := id i1
  refine LOK_ask (v := nI (cntw res w np)) (A1 := A) (s1 := s) h ?_ (fun a x _ => rfl) h.2.2.2.2.2.1 (by omega) (fun C hC => ?_)
  · have t : mX5_count A (nI w) = some (A, .inl (nI (cntw res w np))) := by
      unfold mX5_count mX5_count_b0
      rw [bnd (place_ok' (n := 6) (by omega) lq6 i1)]
      dsimp only [g_tr]
      rw [bnd (cnt5_ok h (by omega))]
    unfold mL_count mL_count_b0
    rw [bnd t]
    dsimp only [g_ct]
    rw [if_pos (by decide), gle, cl0]
  · obtain ⟨B', cp', k', n', e1, e2, e3, e4⟩ := cnt6_ok hC (w := w) (by omega) (fun a x _ => rfl) hC.2.2.2.1 hC.2.2.2.2.1
    refine ⟨B', cp', 0 + k', 0 + n', ?_, by rw [Nat.zero_add, Nat.zero_add]; exact costB_le e2 (by omega) (by omega), e3, e4⟩
    unfold mX6_count mX6_count_b0 mX6_count_b19 mX6_count_b27
    rw [gle, bnd (isIn_ok (n := 6) (by omega) (by decide +kernel) i1)]
    dsimp only
    rw [if_neg (by decide), bnd e1]
/-- rows alike -/
theorem alike_L {a b : Nat} {R S : Rw} (ha : a < 40) (hb : b < 40) (hR : rowIn A (45 + a) R) (hS : rowIn A (45 + b) S) (hl : R.length = S.length) (hl6 : R.length ≤ 60) (bR : ∀ c ∈ R, c < 100) (bS : ∀ c ∈ S, c < 100) : ∀ f i, i ≤ R.length → R.length - i < f → mX3_alike_L22 f A (nI a) (nI b) (nI R.length) (nI i) = some (A, if R.drop i = S.drop i then 1 else 0)
  | 0, i, _, hf => by omega
  | f + 1, i, hi, hf => by
    show mX3_alike_b22 (mX3_alike_L22 f) A (nI a) (nI b) (nI R.length) (nI i) = _
    unfold mX3_alike_b22
    by_cases e : i = R.length
    · rw [if_pos (by rw [nle (by omega) (by omega)]; omega), if_pos (Or.inr rfl), e, List.drop_length, hl, List.drop_length, if_pos rfl]
    · obtain ⟨c, c1, c2, c3⟩ := drop_at (R := R) (k := i) (by omega)
      obtain ⟨d, d1, d2, d3⟩ := drop_at (R := S) (k := i) (by omega)
      have bc := bR c c3
      have bd := bS d d3
      rw [if_neg (by rw [nle (by omega) (by omega)]; omega), bnd (codeAt_k ha (by omega)), hR i c c1]
      dsimp only
      rw [bnd (codeAt_k hb (by omega)), hS i d d1]
      dsimp only
      rw [c2, d2]
      by_cases q : c = d
      · subst q
        rw [if_pos rfl, gle, nI_1, alike_L ha hb hR hS hl hl6 bR bS f (i + 1) (by omega) (by omega)]
        by_cases z : R.drop (i + 1) = S.drop (i + 1)
        · rw [if_pos z, if_pos (by rw [z])]
        · rw [if_neg z, if_neg (fun y => z (List.cons.inj y).2)]
      · rw [if_neg (fun y => q ((nI_eq (by omega) (by omega)).mp y)), if_pos (Or.inl rfl), if_neg (fun y => q (List.cons.inj y).1)]
theorem same6_L {k n : Nat} {R S : Rw} (hR : rowIn A 193 R) (hS : rowIn A 194 S) (hl : R.length = S.length) (hl6 : R.length ≤ 60) (bR : ∀ c ∈ R, c < 100) (bS : ∀ c ∈ S, c < 100) : ∀ f i, i ≤ R.length → R.length - i + 1 < f → mX6_same_L70 193 f cp k n A R.length S.length 1 (nI i) = some (A, (cp, k, n), if R.drop i = S.drop i then 1 else 0)
  | 0, i, _, hf => by omega
  | f + 1, i, hi, hf => by
    show mX6_same_b70 193 cp k n (mX6_same_L70 193 f) A R.length S.length 1 (nI i) = _
    unfold mX6_same_b70 mX6_same_b107 mX6_same_b99
    rw [if_neg (by decide), ofN]
    by_cases e : i = R.length
    · rw [if_pos (by rw [nle (by omega) (by omega)]; omega), if_pos (Or.inr rfl), e, List.drop_length, hl, List.drop_length, if_pos rfl]
    · obtain ⟨c, c1, c2, c3⟩ := drop_at (R := R) (k := i) (by omega)
      obtain ⟨d, d1, d2, d3⟩ := drop_at (R := S) (k := i) (by omega)
      have bc := bR c c3
      have bd := bS d d3
      rw [if_neg (by rw [nle (by omega) (by omega)]; omega), ginT (by omega) (by omega), if_pos rfl, ginT (by omega) (by omega), if_pos rfl, ncl (by omega), hR i c c1, hS i d d1, c2, d2]
      by_cases q : c = d
      · subst q
        rw [if_pos rfl, gle, nI_1, same6_L hR hS hl hl6 bR bS f (i + 1) (by omega) (by omega)]
        by_cases z : R.drop (i + 1) = S.drop (i + 1)
        · rw [if_pos z, if_pos (by rw [z])]
        · rw [if_neg z, if_neg (fun y => z (List.cons.inj y).2)]
      · rw [if_neg (fun y => q ((nI_eq (by omega) (by omega)).mp y)), gle, if_neg (fun y => q (List.cons.inj y).1)]
        obtain ⟨g, rfl⟩ : ∃ g, f = g + 1 := ⟨f - 1, by omega⟩
        show mX6_same_b70 193 cp k n (mX6_same_L70 193 g) A R.length S.length 0 _ = _
        unfold mX6_same_b70 mX6_same_b107
        rw [if_pos rfl, if_pos (Or.inl rfl)]
def sameV (x y : (Nat × Nat) ⊕ Rw) : Int32 := match x, y with
  | .inr a, .inr b => if a = b then 1 else 0
  | _, _ => 0
/-- both parts told without a fault -/
theorem both0 {a b : Nat} (h : INV A cp np s F sz dp res) (ha : a < np) (hb : b < np) : (∃ R S, res a = .inr R ∧ res b = .inr S ∧ mX5_bothTyped A (nI a) (nI b) = some (A, 1)) ∨ (((∃ f, res a = .inl f) ∨ ∃ f, res b = .inl f) ∧ mX5_bothTyped A (nI a) (nI b) = some (A, 0)) := by
  obtain ⟨a1, a2, a3⟩ := inv_in h ha
  obtain ⟨b1, b2, b3⟩ := inv_in h hb
  have fa := fact3_0 (A := A) a3
  have fb := fact3_0 (A := A) b3
  rw [kept_w a1 (by omega)] at fa
  rw [kept_w b1 (by omega)] at fb
  unfold mX5_bothTyped mX5_bothTyped_b0 mX5_bothTyped_b28 mX5_bothTyped_b29
  rw [bnd fa]
  dsimp only
  rcases pdec (res a) with ⟨f, q, e⟩ | ⟨R, e⟩
  · right
    have hf := a2.1 f q e
    refine ⟨Or.inl ⟨_, e⟩, ?_⟩
    rw [if_neg (by rw [e]; show ¬ nI f = 0; rw [eq0F (by omega) (by omega)]; exact not_false), if_pos (Or.inl rfl)]
  · have g0 : told (res a) 0 = 0 := by rw [e]; rfl
    rw [if_pos g0, bnd fb]
    dsimp only
    rcases pdec (res b) with ⟨f, q, e2⟩ | ⟨S, e2⟩
    · right
      have hf := b2.1 f q e2
      refine ⟨Or.inr ⟨_, e2⟩, ?_⟩
      rw [if_neg (by rw [e2]; show ¬ nI f = 0; rw [eq0F (by omega) (by omega)]; exact not_false), if_pos (Or.inl rfl)]
    · left
      have g1 : told (res b) 0 = 0 := by rw [e2]; rfl
      refine ⟨R, S, e, e2, ?_⟩
      rw [if_pos g1, if_pos (Or.inr rfl)]
theorem ok_codes {r : (Nat × Nat) ⊕ Rw} {R : Rw} (h : resOK r) (e : r = .inr R) : R.length ≤ 60 ∧ 1 ≤ R.length ∧ (∀ c ∈ R, c < 100) ∧ rowOf r = R := by
  obtain ⟨h1, h2, h3⟩ := h.2 R e
  refine ⟨h2, ?_, fun c hc => by have := h3 c hc; omega, by rw [e]; rfl⟩
  cases R with
  | nil => exact absurd h1 (by unfold Ty; decide)
  | cons c t => exact Nat.succ_le_succ (Nat.zero_le _)
def bl (rR : gM → Option (gM × (Nat × Nat × Nat) × Int32)) (B : gM) : Option (gM × (Nat × Nat × Nat) × Int32) := (rR B).bind fun q => if q.2.2 = 0 ∨ q.2.2 = 1 then some q else none
theorem LOK_askb {rC : Option (gM × Int32)} {rR : gM → Option (gM × (Nat × Nat × Nat) × Int32)} {v : Int32} (hv : v = 0 ∨ v = 1) (h : INV A cp np s F sz dp res) {A1 : gM} {s1 : Nat} (e1 : rC = some (g_up A1 192 0 v, 0)) (o1 : sameA A A1) (st : stI A1 s1) (hs1 : s1 ≤ s + 400000) (e2 : ∀ C, INV (g_up C 183 0 0) cp np s1 F sz dp res → ∃ A2 cp' k n, rR C = some (A2, (cp', k, n), v) ∧ costB cp cp' k n 200 12000 ∧ offA 193 (g_up C 183 0 0) A2 ∧ rO A2 cp') : LOK cp s rC (bl rR) := LOK_ask h e1 o1 st hs1 (fun C hC => by
  obtain ⟨A2, cp', k, n, q1, q2⟩ := e2 C hC
  exact ⟨A2, cp', k, n, by unfold bl; rw [bnd q1]; exact if_pos hv, q2⟩)
theorem LOK_nob {rC : Option (gM × Int32)} {rR : gM → Option (gM × (Nat × Nat × Nat) × Int32)} (h : INV A cp np s F sz dp res) (e1 : rC = some (A, 1)) (e2 : rR A = some (g_up A 183 0 1, (cp, 0, 0), 0)) : LOK cp s rC (bl rR) := LOK_no h e1 (by unfold bl; rw [bnd e2]; exact if_pos (Or.inl rfl))
theorem k_same (h : INV A cp np s F sz dp res) (x1 x2 : Int32) : LOK cp s (mL_same A x1 x2) (bl (fun B => mX6_same 193 cp B x1 x2)) := by
  have hn := h.2.1
  have u1 : g_up A 183 0 1 183 0 = 1 := up_s
  rcases inR_dec x1 np with i1 | i1
  rotate_left
  · refine LOK_nob h ?_ ?_
    · have t : mX5_same A x1 x2 = some (A, .inr 0) := by
        unfold mX5_same mX5_same_b0
        rw [bnd (part_no h.1 hn i1)]
        all_goals rfl
      unfold mL_same mL_same_b0
      rw [bnd t]
      dsimp only [g_ct]
      simp only [↓reduceIte]
    · show mX6_same 193 cp A x1 x2 = _
      unfold mX6_same mX6_same_b0 mX6_same_b21 mX6_same_b22
      rw [bnd (isPart_no h.2.2.1 hn i1)]
      dsimp only
      rw [if_pos rfl, gle, u1, if_neg (by decide), if_pos (Or.inl rfl)]
  rcases inR_dec x2 np with i2 | i2
  rotate_left
  · refine LOK_nob h ?_ ?_
    · have t : mX5_same A x1 x2 = some (A, .inr 0) := by
        unfold mX5_same mX5_same_b0
        rw [bnd (part_ok h.1 hn i1)]
        dsimp only [g_tr]
        rw [bnd (part_no h.1 hn i2)]
        all_goals rfl
      unfold mL_same mL_same_b0
      rw [bnd t]
      dsimp only [g_ct]
      simp only [↓reduceIte]
    · show mX6_same 193 cp A x1 x2 = _
      unfold mX6_same mX6_same_b0 mX6_same_b21 mX6_same_b22
      rw [bnd (isPart_ok h.2.2.1 hn i1)]
      dsimp only
      rw [if_neg (by decide), bnd (isPart_no h.2.2.1 hn i2)]
      dsimp only
      rw [if_pos rfl, gle, u1, if_neg (by decide), if_pos (Or.inl rfl)]
  obtain ⟨a, ha, rfl⟩ := id i1
  obtain ⟨b, hb, rfl⟩ := id i2
  obtain ⟨a1, a2, a3⟩ := inv_in h ha
  obtain ⟨b1, b2, b3⟩ := inv_in h hb
  have la := rowOf_len a2
  have lb := rowOf_len b2
  have out : ∀ v, (v = 0 ∨ v = 1) → mX5_same A (nI a) (nI b) = some (A, .inl v) → mL_same A (nI a) (nI b) = some (g_up A 192 0 v, 0) := fun v hv t => by
    unfold mL_same mL_same_b0 mL_same_b16
    rw [bnd t]
    dsimp only [g_ct]
    rcases hv with rfl | rfl
    · rw [if_pos rfl, if_pos (by decide), gle]; rfl
    · rw [if_neg (by decide), if_pos (by decide), gle]; rfl
  have rows : ∀ C, INV (g_up C 183 0 0) cp np s F sz dp res → ∃ A2 cp' k n, mX6_same 193 cp C (nI a) (nI b) = mX6_same_b45 193 cp' k n A2 (rowOf (res a)).length (rowOf (res b)).length ∧ costB cp cp' k n 200 12000 ∧ offA 193 (g_up C 183 0 0) A2 ∧ rO A2 cp' ∧ rowIn A2 193 (rowOf (res a)) ∧ rowIn A2 194 (rowOf (res b)) := fun C hC => by
    obtain ⟨A1, c1, k1, n1, e1, e2, e3, e4, e5⟩ := row_ok (N := 193) (Nat.le_refl _) (by omega) (INV_RI hC ha)
    obtain ⟨A2, c2, k2, n2, f1, f2, f3, f4, f5⟩ := row_ok (N := 193 + 1) (by omega) (by omega) (RI_at hC e3 e2.1 e4 hb)
    refine ⟨A2, c2, 0 + k1 + k2, 0 + n1 + n2, ?_, by rw [Nat.zero_add, Nat.zero_add]; exact costB_le (costB_tr e2 f2) (by omega) (by omega), offA_tr e3 (offA_le (by omega) f3), f4, fun i c hi => by rw [f3 _ _ (by omega)]; exact e5 i c hi, f5⟩
    unfold mX6_same mX6_same_b0 mX6_same_b22 mX6_same_b39
    rw [bnd (isPart_ok (up0 hC) hn i1)]
    dsimp only
    rw [if_neg (by decide), bnd (isPart_ok (up0 hC) hn i2)]
    dsimp only
    rw [if_neg (by decide), gle, if_pos up_s, bnd e1]
    dsimp only
    rw [bnd f1]
  rcases both0 h ha hb with ⟨R, S, ea, eb, bt⟩ | ⟨hz, bt⟩
  · obtain ⟨lR, pR, cR, oR⟩ := ok_codes a2 ea
    obtain ⟨lS, pS, cS, oS⟩ := ok_codes b2 eb
    rw [oR, oS] at rows
    have rA := kept_row a1
    have rB := kept_row b1
    have fa := fact3_2 (A := A) a3
    have fb := fact3_2 (A := A) b3
    rw [kept_len a1, oR] at fa
    rw [kept_len b1, oS] at fb
    rw [oR] at rA
    rw [oS] at rB
    have hv : (if R = S then (1 : Int32) else 0) = 0 ∨ (if R = S then (1 : Int32) else 0) = 1 := by
      by_cases q : R = S
      · right; rw [if_pos q]
      · left; rw [if_neg q]
    refine LOK_askb (v := if R = S then 1 else 0) hv (A1 := A) (s1 := s) h ?_ (fun a x _ => rfl) h.2.2.2.2.2.1 (by omega) (fun C hC => ?_)
    · refine out _ hv ?_
      have al : mX3_alike A (nI a) (nI b) = some (A, if R = S then 1 else 0) := by
        unfold mX3_alike mX3_alike_b0
        rw [bnd fa]
        dsimp only
        rw [bnd fb]
        dsimp only
        by_cases hl : R.length = S.length
        · have := alike_L a3 b3 rA rB hl lR cR cS gF 0 (by omega) (by unfold gF; omega)
          rw [List.drop_zero, List.drop_zero, nI0] at this
          rw [if_pos (by rw [hl]), this]
        · rw [if_neg (fun y => hl ((nI_eq (by omega) (by omega)).mp y)), if_pos (Or.inl rfl), if_neg (fun y => hl (by rw [y]))]
      unfold mX5_same mX5_same_b0 mX5_same_b35 mX5_same_b36
      rw [bnd (part_ok h.1 hn i1)]
      dsimp only [g_tr]
      rw [bnd (part_ok h.1 hn i2)]
      dsimp only [g_tr]
      rw [bnd bt]
      dsimp only
      rw [if_neg (by decide), bnd al]
      dsimp only
      by_cases q : R = S
      · rw [if_pos q, if_neg (by decide), if_pos (Or.inr rfl)]
      · rw [if_neg q, if_pos rfl, if_pos (Or.inl rfl)]
    · obtain ⟨A2, cp', k, n, r1, r2, r3, r4, r5, r6⟩ := rows C hC
      refine ⟨A2, cp', k, n, r1.trans ?_, r2, r3, r4⟩
      unfold mX6_same_b45 mX6_same_b64 mX6_same_b65
      rw [ofN, ofN, if_neg (by rw [le0F (by omega) (by omega)]; exact not_false)]
      by_cases hl : R.length = S.length
      · have := same6_L (cp := cp') (k := k) (n := n) r5 r6 hl lR cR cS gF 0 (by omega) (by unfold gF; omega)
        rw [List.drop_zero, List.drop_zero, nI0] at this
        rw [if_pos (by rw [hl]), this]
      · rw [if_neg (fun y => hl ((nI_eq (by omega) (by omega)).mp y)), if_neg (fun y => hl (by rw [y]))]
        show mX6_same_b70 193 cp' k n (mX6_same_L70 193 1000001) A2 R.length S.length 0 0 = _
        unfold mX6_same_b70 mX6_same_b107
        rw [if_pos rfl, if_pos (Or.inl rfl)]
  · refine LOK_askb (v := 0) (Or.inl rfl) (A1 := A) (s1 := s) h ?_ (fun a x _ => rfl) h.2.2.2.2.2.1 (by omega) (fun C hC => ?_)
    · refine out _ (Or.inl rfl) ?_
      unfold mX5_same mX5_same_b0 mX5_same_b35 mX5_same_b36
      rw [bnd (part_ok h.1 hn i1)]
      dsimp only [g_tr]
      rw [bnd (part_ok h.1 hn i2)]
      dsimp only [g_tr]
      rw [bnd bt]
      dsimp only
      rw [if_pos rfl, if_pos (Or.inl rfl)]
    · obtain ⟨A2, cp', k, n, r1, r2, r3, r4, r5, r6⟩ := rows C hC
      refine ⟨A2, cp', k, n, r1.trans ?_, r2, r3, r4⟩
      obtain ⟨g, hg⟩ : ∃ g, gF = g + 1 := ⟨1000001, rfl⟩
      have zero : mX6_same_b64 193 cp' k n A2 (rowOf (res a)).length (rowOf (res b)).length = some (A2, (cp', k, n), 0) := by
        unfold mX6_same_b64 mX6_same_b65
        rw [hg]
        show mX6_same_b70 193 cp' k n (mX6_same_L70 193 g) A2 _ _ 0 0 = _
        unfold mX6_same_b70 mX6_same_b107
        rw [if_pos rfl, if_pos (Or.inl rfl)]
      unfold mX6_same_b45
      rw [ofN, ofN]
      by_cases q : (rowOf (res a)).length = 0
      · rw [q] at zero ⊢
        rw [if_pos (by rw [nI0]; decide), zero]
      · have q2 : (rowOf (res b)).length = 0 := by
          rcases hz with ⟨f, e⟩ | ⟨f, e⟩
          · exact absurd (by rw [e]; rfl) q
          · rw [e]; rfl
        rw [if_neg (by rw [le0F (by omega) (by omega)]; exact not_false), if_neg (by rw [q2, neq (by omega) (by omega)]; exact q), zero]
end CN
