/-! THE LONGEST AND THE MEAN -/
def DOK {α : Type} (cp s : Nat) (rC : Option (gM × α)) (rR : gM → Option (gM × (Nat × Nat × Nat) × α)) : Prop :=
  ∃ A1 v, rC = some (A1, v) ∧ ∃ A2 cp' k n, rR A1 = some (A2, (cp', k, n), v) ∧ costB cp cp' k n 200 12000 ∧ ∃ np' s' F' sz' dp' res', INV A2 cp' np' s' F' sz' dp' res' ∧ s' ≤ s + 400000
def lgs (res : Nat → (Nat × Nat) ⊕ Rw) : Nat → Int32 × Nat
  | 0 => (-1, 0)
  | i + 1 => if (rowOf (res i)).length ≤ (lgs res i).2 then lgs res i else (nI i, (rowOf (res i)).length)
def sums (res : Nat → (Nat × Nat) ⊕ Rw) : Nat → Nat
  | 0 => 0
  | i + 1 => sums res i + (rowOf (res i)).length
section ME
variable {A C : gM} {cp np s : Nat} {F : Nat → Nat → Int32} {sz dp : Nat → Nat} {res : Nat → (Nat × Nat) ⊕ Rw}
theorem DOK_ask {α : Type} {rC : Option (gM × α)} {rR : gM → Option (gM × (Nat × Nat × Nat) × α)} {v : α} (h : INV A cp np s F sz dp res) (e1 : rC = some (A, v)) (e2 : INV (g_up A 183 0 0) cp np s F sz dp res → ∃ A2 cp' k n, rR A = some (A2, (cp', k, n), v) ∧ costB cp cp' k n 200 12000 ∧ offA 193 (g_up A 183 0 0) A2 ∧ rO A2 cp') : DOK cp s rC rR := by
  have hB : INV (g_up A 183 0 0) cp np s F sz dp res := INV_off h (fun a x q => by rw [up_get, if_neg (by omega)]) h.2.2.2.1 (fun i hi => by rw [up_c (by omega)]; exact h.2.2.2.2.1 i hi) (stI_off h.2.2.2.2.2.1 (by rw [up_c (by omega)]) (funext fun x => by rw [up_c (by omega)]))
  obtain ⟨A2, cp', k, n, q1, q2, q3, q4⟩ := e2 hB
  exact ⟨A, v, e1, A2, cp', k, n, q1, q2, np, s, F, sz, dp, res, INV_off hB (fun a x q => q3 _ _ (by omega)) q2.1 q4 (stI_off hB.2.2.2.2.2.1 (q3 _ _ (by omega)) (funext fun x => q3 _ _ (by omega))), by omega⟩
theorem made_n (h : INV A cp np s F sz dp res) : mX2_made A = some (A, nI np) := by unfold mX2_made mX2_made_b0; rw [h.1]
theorem len_at (h : INV A cp np s F sz dp res) {i : Nat} (hi : i < np) : mX3_fact A (nI i) 2 = some (A, nI (rowOf (res i)).length) ∧ (rowOf (res i)).length ≤ 60 := by
  obtain ⟨g1, g2, g3⟩ := inv_in h hi
  have := fact3_2 (A := A) g3
  rw [kept_len g1] at this
  exact ⟨this, rowOf_len g2⟩
theorem len6_at (h : INV C cp np s F sz dp res) {i : Nat} (hi : i < np) {B : gM} {cp1 : Nat} (o : offA 193 C B) (hc : okc cp1) (hO : rO B cp1) : ∃ B' cp' k n, mX6_length 193 cp1 B (nI i) = some (B', (cp', k, n), nI (rowOf (res i)).length) ∧ costB cp1 cp' k n 0 0 ∧ offA 193 C B' ∧ rO B' cp' := by
  obtain ⟨B', cp', k, n, e1, e2, e3, e4⟩ := length_ok (N := 193) (by have := h.2.1; omega) (RI_at h o hc hO hi)
  exact ⟨B', cp', k, n, e1, e2, offA_tr o (offA_R e3), e4⟩
theorem lgs_le (h : INV A cp np s F sz dp res) : ∀ i, i ≤ np → (lgs res i).2 ≤ 60
  | 0, _ => Nat.zero_le _
  | i + 1, hi => by
    have := (len_at h (show i < np by omega)).2
    have ih := lgs_le h i (by omega)
    unfold lgs
    split
    · exact ih
    · exact this
theorem long5_L (h : INV A cp np s F sz dp res) : ∀ f i, i ≤ np → np - i < f → mX5_longest_L6 f A (lgs res i).1 (nI (lgs res i).2) (nI i) = some (A, (lgs res np).1)
  | 0, i, _, hf => by omega
  | f + 1, i, hi, hf => by
    have hn := h.2.1
    have b := lgs_le h i hi
    show mX5_longest_b6 (mX5_longest_L6 f) A (lgs res i).1 (nI (lgs res i).2) (nI i) = _
    unfold mX5_longest_b6 mX5_longest_b39
    rw [bnd (made_n h)]
    dsimp only
    by_cases e : i = np
    · rw [if_pos (by rw [nle (by omega) (by omega)]; omega), e]
    · obtain ⟨g1, g2⟩ := len_at h (show i < np by omega)
      have ih := long5_L h f (i + 1) (by omega) (by omega)
      rw [if_neg (by rw [nle (by omega) (by omega)]; omega), bnd g1]
      dsimp only
      by_cases q : (rowOf (res i)).length ≤ (lgs res i).2
      · have ex : lgs res (i + 1) = lgs res i := if_pos q
        rw [ex] at ih
        rw [if_pos (by rw [nle (by omega) (by omega)]; exact q), gle, nI_1, ih]
      · have ex : lgs res (i + 1) = (nI i, (rowOf (res i)).length) := if_neg q
        rw [ex] at ih
        rw [if_neg (by rw [nle (by omega) (by omega)]; exact q), gle, nI_1, ih]
theorem long6_L (h : INV C cp np s F sz dp res) : ∀ f i (B : gM) (cp1 k n : Nat), i ≤ np → np - i < f → offA 193 C B → okc cp1 → rO B cp1 → ∃ B' cp' k' n', mX6_longest_L11 193 f cp1 k n B (lgs res i).1 (nI (lgs res i).2) (nI i) = some (B', (cp', k + k', n + n'), (lgs res np).1) ∧ costB cp1 cp' k' n' 0 0 ∧ offA 193 C B' ∧ rO B' cp'
  | 0, i, _, _, _, _, _, hf, _, _, _ => by omega
  | f + 1, i, B, cp1, k, n, hi, hf, o, hc, hO => by
    have hn := h.2.1
    have b := lgs_le h i hi
    have h1 : B 183 1 = nI np := by rw [o _ _ (by omega)]; exact h.2.2.1
    by_cases e : i = np
    · refine ⟨B, cp1, 0, 0, ?_, ⟨hc, by omega, by omega, by omega⟩, o, hO⟩
      show mX6_longest_b11 193 cp1 k n (mX6_longest_L11 193 f) B (lgs res i).1 (nI (lgs res i).2) (nI i) = _
      unfold mX6_longest_b11
      rw [h1, if_pos (by rw [nle (by omega) (by omega)]; omega), e]
      rfl
    · obtain ⟨g1, g2⟩ := len_at h (show i < np by omega)
      obtain ⟨B1, cp2, k1, n1, d1, d2, d3, d4⟩ := len6_at h (show i < np by omega) o hc hO
      obtain ⟨B', cp', k', n', e1, e2, e3, e4⟩ := long6_L h f (i + 1) B1 cp2 (k + k1) (n + n1) (by omega) (by omega) d3 d2.1 d4
      refine ⟨B', cp', k1 + k', n1 + n', ?_, costB_tr d2 e2, e3, e4⟩
      show mX6_longest_b11 193 cp1 k n (mX6_longest_L11 193 f) B (lgs res i).1 (nI (lgs res i).2) (nI i) = _
      unfold mX6_longest_b11 mX6_longest_b24 mX6_longest_b40
      rw [h1, if_neg (by rw [nle (by omega) (by omega)]; omega), bnd d1]
      dsimp only
      rw [← Nat.add_assoc, ← Nat.add_assoc]
      by_cases q : (rowOf (res i)).length ≤ (lgs res i).2
      · have ex : lgs res (i + 1) = lgs res i := if_pos q
        rw [ex] at e1
        rw [if_neg (by rw [nlt (by omega) (by omega)]; omega), gle, nI_1, e1]
      · have ex : lgs res (i + 1) = (nI i, (rowOf (res i)).length) := if_neg q
        rw [ex] at e1
        rw [if_pos (by rw [nlt (by omega) (by omega)]; omega), gle, nI_1, e1]
theorem k_longest (h : INV A cp np s F sz dp res) : DOK cp s (mX5_longest A) (fun B => mX6_longest 193 cp B) := by
  refine DOK_ask (v := (lgs res np).1) h ?_ (fun hC => ?_)
  · have := long5_L h gF 0 (by omega) (by have := h.2.1; unfold gF; omega)
    unfold mX5_longest mX5_longest_b0
    rw [nI0] at this
    exact (by rw [← nI0]; rw [← nI0] at this; exact this)
  · obtain ⟨B', cp', k', n', e1, e2, e3, e4⟩ := long6_L hC gF 0 _ cp 0 0 (by omega) (by have := h.2.1; unfold gF; omega) (fun a x _ => rfl) hC.2.2.2.1 hC.2.2.2.2.1
    refine ⟨B', cp', 0 + k', 0 + n', ?_, by rw [Nat.zero_add, Nat.zero_add]; exact costB_le e2 (by omega) (by omega), e3, e4⟩
    show mX6_longest 193 cp A = _
    unfold mX6_longest mX6_longest_b0
    rw [gle, ← nI0]
    rw [← nI0] at e1
    exact e1
theorem sums_le (h : INV A cp np s F sz dp res) : ∀ i, i ≤ np → sums res i ≤ 60 * i
  | 0, _ => Nat.le_refl 0
  | i + 1, hi => by
    have := (len_at h (show i < np by omega)).2
    have ih := sums_le h i (by omega)
    show sums res i + _ ≤ _
    omega
theorem mean5_L (h : INV A cp np s F sz dp res) {x : Int32} (hx : ¬ x = 0) : ∀ f i, i ≤ np → np - i < f → mX5_mean_L16 f A x (nI (sums res i)) (nI i) = some (A, FP.ddiv (FP.i2d (nI (sums res np))) (FP.i2d x))
  | 0, i, _, hf => by omega
  | f + 1, i, hi, hf => by
    have hn := h.2.1
    show mX5_mean_b16 (mX5_mean_L16 f) A x (nI (sums res i)) (nI i) = _
    unfold mX5_mean_b16
    rw [bnd (made_n h)]
    dsimp only
    by_cases e : i = np
    · rw [if_pos (by rw [nle (by omega) (by omega)]; omega), if_pos hx, e]
    · obtain ⟨g1, g2⟩ := len_at h (show i < np by omega)
      have ih := mean5_L h hx f (i + 1) (by omega) (by omega)
      rw [if_neg (by rw [nle (by omega) (by omega)]; omega), bnd g1]
      dsimp only
      rw [gle, gle, nI_add, nI_1]
      exact ih
theorem cnt1 (h : INV A cp np s F sz dp res) {i : Nat} (hi : i < np) : cntw res 1 (i + 1) = cntw res 1 i + (if (rowOf (res i)).length = 0 then 0 else 1) := by
  obtain ⟨g1, g2, g3⟩ := inv_in h hi
  show cntw res 1 i + _ = _
  rcases pdec (res i) with ⟨f, q, e⟩ | ⟨R, e⟩
  · have hf := g2.1 f q e
    have hz : ¬ ((1 : Nat) = 0 ∨ told (Sum.inl (f, q)) 0 = nI 1 - 1) := fun z => z.elim (fun z => absurd z (by omega)) (fun z => by
      have z1 : nI f = nI 1 - 1 := z
      rw [sub1 (by omega), neq (by omega) (by omega)] at z1
      omega)
    rw [e, if_neg hz, if_pos (show (rowOf (Sum.inl (f, q) : (Nat × Nat) ⊕ Rw)).length = 0 from rfl)]
  · obtain ⟨l1, l2, -, l3⟩ := ok_codes g2 e
    have hz : (1 : Nat) = 0 ∨ told (Sum.inr R) 0 = nI 1 - 1 := Or.inr (by
      show (0 : Int32) = nI 1 - 1
      rw [sub1 (by omega)]; exact nI0.symm)
    rw [l3, e, if_pos hz, if_neg (by omega)]
theorem mean6_L (h : INV C cp np s F sz dp res) : ∀ f i (B : gM) (cp1 k n : Nat), i ≤ np → np - i < f → offA 193 C B → okc cp1 → rO B cp1 → ∃ B' cp' k' n', mX6_mean_L11 193 f cp1 k n B (nI (sums res i)) (nI (cntw res 1 i)) (nI i) = some (B', (cp', k + k', n + n'), if nI (cntw res 1 np) = 0 then 0 else FP.ddiv (FP.i2d (nI (sums res np))) (FP.i2d (nI (cntw res 1 np)))) ∧ costB cp1 cp' k' n' 0 0 ∧ offA 193 C B' ∧ rO B' cp'
  | 0, i, _, _, _, _, _, hf, _, _, _ => by omega
  | f + 1, i, B, cp1, k, n, hi, hf, o, hc, hO => by
    have hn := h.2.1
    have h1 : B 183 1 = nI np := by rw [o _ _ (by omega)]; exact h.2.2.1
    by_cases e : i = np
    · refine ⟨B, cp1, 0, 0, ?_, ⟨hc, by omega, by omega, by omega⟩, o, hO⟩
      show mX6_mean_b11 193 cp1 k n (mX6_mean_L11 193 f) B (nI (sums res i)) (nI (cntw res 1 i)) (nI i) = _
      unfold mX6_mean_b11 mX6_mean_b63
      rw [h1, if_pos (by rw [nle (by omega) (by omega)]; omega), e]
      by_cases z : nI (cntw res 1 np) = 0
      · rw [if_pos z, if_pos z]; rfl
      · rw [if_neg z, if_pos z, if_neg z]; rfl
    · obtain ⟨g1, g2⟩ := len_at h (show i < np by omega)
      obtain ⟨B1, cp2, k1, n1, d1, d2, d3, d4⟩ := len6_at h (show i < np by omega) o hc hO
      obtain ⟨B', cp', k', n', e1, e2, e3, e4⟩ := mean6_L h f (i + 1) B1 cp2 (k + k1) (n + n1) (by omega) (by omega) d3 d2.1 d4
      refine ⟨B', cp', k1 + k', n1 + n', ?_, costB_tr d2 e2, e3, e4⟩
      show mX6_mean_b11 193 cp1 k n (mX6_mean_L11 193 f) B (nI (sums res i)) (nI (cntw res 1 i)) (nI i) = _
      unfold mX6_mean_b11 mX6_mean_b24 mX6_mean_b42
      rw [h1, if_neg (by rw [nle (by omega) (by omega)]; omega), bnd d1]
      dsimp only
      have ex := cnt1 h (show i < np by omega)
      have ey : sums res (i + 1) = sums res i + (rowOf (res i)).length := rfl
      rw [← Nat.add_assoc, ← Nat.add_assoc, gle, nI_add, ← ey, gle, gle, gle, gle, nI_1, nI_1]
      by_cases q : (rowOf (res i)).length = 0
      · rw [if_pos q] at ex
        rw [if_pos (by rw [le0T q]; trivial), show nI (cntw res 1 i) + 0 = nI (cntw res 1 (i + 1)) by rw [← nI0, nI_add, ex], e1]
      · rw [if_neg q] at ex
        rw [if_neg (by rw [le0F (by omega) (by omega)]; exact not_false), ← ex, e1]
theorem k_mean (h : INV A cp np s F sz dp res) : DOK cp s (mX5_mean A) (fun B => mX6_mean 193 cp B) := by
  refine DOK_ask (v := if nI (cntw res 1 np) = 0 then 0 else FP.ddiv (FP.i2d (nI (sums res np))) (FP.i2d (nI (cntw res 1 np)))) h ?_ (fun hC => ?_)
  · have c1 := cnt5_ok h (w := 1) (by omega)
    rw [← one_nI] at c1
    unfold mX5_mean mX5_mean_b0
    rw [bnd c1]
    dsimp only
    by_cases z : nI (cntw res 1 np) = 0
    · rw [if_pos z, if_pos z]
    · have := mean5_L h z gF 0 (by omega) (by have := h.2.1; unfold gF; omega)
      rw [if_neg z, if_neg z, ← nI0]
      exact this
  · obtain ⟨B', cp', k', n', e1, e2, e3, e4⟩ := mean6_L hC gF 0 _ cp 0 0 (by omega) (by have := h.2.1; unfold gF; omega) (fun a x _ => rfl) hC.2.2.2.1 hC.2.2.2.2.1
    refine ⟨B', cp', 0 + k', 0 + n', ?_, by rw [Nat.zero_add, Nat.zero_add]; exact costB_le e2 (by omega) (by omega), e3, e4⟩
    show mX6_mean 193 cp A = _
    unfold mX6_mean mX6_mean_b0
    rw [gle, ← nI0]
    rw [← nI0] at e1
    exact e1
end ME
