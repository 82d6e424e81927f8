/-! THE DIGEST -/
def foldW (g : Nat → Int32) : Nat → Nat → Int64 → Int64
  | 0, _, x => x
  | m + 1, i, x => foldW g m (i + 1) (x * 31 + (g i).toInt64)
def dC : Rw → Int64 → Int64
  | [], x => x
  | c :: t, x => dC t (x * 31 + (nI c).toInt64)
def foldP (V : Nat → Nat → Int32) (res : Nat → (Nat × Nat) ⊕ Rw) : Nat → Nat → Int64 → Int64
  | 0, _, x => x
  | m + 1, i, x => foldP V res m (i + 1) (dC (rowOf (res i)) (foldW (told (res i)) 5 0 (foldW (V i) 7 0 x)))
def Vp (F : Nat → Nat → Int32) (dp : Nat → Nat) (p w : Nat) : Int32 := if w = 6 then nI (dp p) else F p w
section DI
variable {A C : gM} {cp np s : Nat} {F : Nat → Nat → Int32} {sz dp : Nat → Nat} {res : Nat → (Nat × Nat) ⊕ Rw}
theorem Vp_A (h : INV A cp np s F sz dp res) {p w : Nat} (hp : p < np) (hw : w < 7) : A (3 + p) w = Vp F dp p w := by
  unfold Vp
  by_cases e : w = 6
  · rw [if_pos e, e]; exact (h.2.2.2.2.2.2.1 p hp).2.1
  · rw [if_neg e]; exact ((h.2.2.2.2.2.2.1 p hp).1 w (by omega)).1
theorem dig5_C {K : gM → Int64 → Int32 → Option (gM × Int64)} {p : Nat} {R : Rw} (hp : p < 40) (hR : rowIn A (45 + p) R) (hl : R.length ≤ 60) : ∀ f i x, i ≤ R.length → R.length - i < f → mX5_digest_L125 K f A x (nI p) (nI R.length) (nI i) = K A (dC (R.drop i) x) (nI p + 1)
  | 0, i, _, _, hf => by omega
  | f + 1, i, x, hi, hf => by
    show mX5_digest_b125 K (mX5_digest_L125 K f) A x (nI p) (nI R.length) (nI i) = _
    unfold mX5_digest_b125
    by_cases e : i = R.length
    · rw [if_pos (by rw [nle (by omega) (by omega)]; omega), gle, e, List.drop_length]
      rfl
    · obtain ⟨c, c1, c2, c3⟩ := drop_at (R := R) (k := i) (by omega)
      rw [if_neg (by rw [nle (by omega) (by omega)]; omega), bnd (codeAt_k hp (by omega)), hR i c c1]
      dsimp only
      rw [gle, gle, nI_1, dig5_C hp hR hl f (i + 1) _ (by omega) (by omega), c2]
      rfl
theorem dig5_T (h : INV A cp np s F sz dp res) {K : gM → Int64 → Int32 → Option (gM × Int64)} {p : Nat} (hp : p < np) : ∀ m f i x, i + m = 5 → m < f → mX5_digest_L81 K f A x (nI p) (nI i) = K A (dC (rowOf (res p)) (foldW (told (res p)) m i x)) (nI p + 1)
  | m, 0, i, _, _, hf => by omega
  | 0, f + 1, i, x, hi, hf => by
    obtain ⟨g1, g2, g3⟩ := inv_in h hp
    show mX5_digest_b81 K (mX5_digest_L81 K f) A x (nI p) (nI i) = _
    unfold mX5_digest_b81
    have := dig5_C (K := K) g3 (kept_row g1) (rowOf_len g2) gF 0 x (by omega) (by have := rowOf_len g2; unfold gF; omega)
    rw [List.drop_zero] at this
    rw [lq5, if_pos (by rw [nle (by omega) (by omega)]; omega), bnd (len_at h hp).1]
    dsimp only
    rw [← nI0, this]
    rfl
  | m + 1, f + 1, i, x, hi, hf => by
    obtain ⟨g1, g2, g3⟩ := inv_in h hp
    show mX5_digest_b81 K (mX5_digest_L81 K f) A x (nI p) (nI i) = _
    unfold mX5_digest_b81
    rw [lq5, if_neg (by rw [nle (by omega) (by omega)]; omega), bnd (fact3_w g3 (by omega)), kept_w g1 (by omega)]
    dsimp only
    rw [gle, gle, nI_1, dig5_T h hp m f (i + 1) _ (by omega) (by omega)]
    rfl
theorem dig5_F (h : INV A cp np s F sz dp res) {K : gM → Int64 → Int32 → Option (gM × Int64)} {p : Nat} (hp : p < np) : ∀ m f i x, i + m = 7 → m < f → mX5_digest_L47 K f A x (nI p) (nI i) = K A (dC (rowOf (res p)) (foldW (told (res p)) 5 0 (foldW (Vp F dp p) m i x))) (nI p + 1)
  | m, 0, i, _, _, hf => by omega
  | 0, f + 1, i, x, hi, hf => by
    show mX5_digest_b47 K (mX5_digest_L47 K f) A x (nI p) (nI i) = _
    unfold mX5_digest_b47
    rw [lq7, if_pos (by rw [nle (by omega) (by omega)]; omega), ← nI0, dig5_T h hp 5 gF 0 x (by omega) (by unfold gF; omega)]
    rfl
  | m + 1, f + 1, i, x, hi, hf => by
    have hn := h.2.1
    show mX5_digest_b47 K (mX5_digest_L47 K f) A x (nI p) (nI i) = _
    unfold mX5_digest_b47
    rw [lq7, if_neg (by rw [nle (by omega) (by omega)]; omega), bnd (fact_w h.1 hp hn (by omega)), Vp_A h hp (by omega)]
    dsimp only
    rw [gle, gle, nI_1, dig5_F h hp m f (i + 1) _ (by omega) (by omega)]
    rfl
theorem dig5_P (h : INV A cp np s F sz dp res) : ∀ m f i x, i + m = np → m < f → mX5_digest_L33 f A x (nI i) = some (A, foldP (Vp F dp) res m i x)
  | m, 0, i, _, _, hf => by omega
  | 0, f + 1, i, x, hi, hf => by
    have hn := h.2.1
    show mX5_digest_b33 (mX5_digest_L33 f) A x (nI i) = _
    unfold mX5_digest_b33
    rw [bnd (made_n h)]
    dsimp only
    rw [if_pos (by rw [nle (by omega) (by omega)]; omega)]
    rfl
  | m + 1, f + 1, i, x, hi, hf => by
    have hn := h.2.1
    show mX5_digest_b33 (mX5_digest_L33 f) A x (nI i) = _
    unfold mX5_digest_b33
    rw [bnd (made_n h)]
    dsimp only
    rw [if_neg (by rw [nle (by omega) (by omega)]; omega), ← nI0, dig5_F h (show i < np by omega) 7 gF 0 x (by omega) (by unfold gF; omega), nI_1, dig5_P h m f (i + 1) _ (by omega) (by omega)]
    rfl
theorem dig5_Q (h : INV A cp np s F sz dp res) : ∀ m f i x, i + m = 6 → m < f → mX5_digest_L6 f A x (nI i) = some (A, foldP (Vp F dp) res np 0 (foldW (fun w => nI (cntw res w np)) m i x))
  | m, 0, i, _, _, hf => by omega
  | 0, f + 1, i, x, hi, hf => by
    show mX5_digest_b6 (mX5_digest_L6 f) A x (nI i) = _
    unfold mX5_digest_b6
    rw [lq6, if_pos (by rw [nle (by omega) (by omega)]; omega), ← nI0, dig5_P h np gF 0 x (by omega) (by have := h.2.1; unfold gF; omega)]
    rfl
  | m + 1, f + 1, i, x, hi, hf => by
    show mX5_digest_b6 (mX5_digest_L6 f) A x (nI i) = _
    unfold mX5_digest_b6
    rw [lq6, if_neg (by rw [nle (by omega) (by omega)]; omega), bnd (cnt5_ok h (by omega))]
    dsimp only
    rw [gle, gle, nI_1, dig5_Q h m f (i + 1) _ (by omega) (by omega)]
    rfl
/-- the reference's -/
abbrev K6 := Nat → Nat → Nat → gM → Int64 → Int32 → Option (gM × (Nat × Nat × Nat) × Int64)
theorem dig6_C {K : K6} {p : Nat} {R : Rw} (hR : rowIn A 193 R) (hl : R.length ≤ 60) {cp k n : Nat} : ∀ f i x, i ≤ R.length → R.length - i < f → mX6_digest_L122 193 K f cp k n A x (nI p) R.length (nI R.length) (nI i) = K cp k n A (dC (R.drop i) x) (nI p + 1)
  | 0, i, _, _, hf => by omega
  | f + 1, i, x, hi, hf => by
    show mX6_digest_b122 193 cp k n K (mX6_digest_L122 193 K f) A x (nI p) R.length (nI R.length) (nI i) = _
    unfold mX6_digest_b122
    by_cases e : i = R.length
    · rw [if_pos (by rw [nle (by omega) (by omega)]; omega), gle, e, List.drop_length]
      rfl
    · obtain ⟨c, c1, c2, c3⟩ := drop_at (R := R) (k := i) (by omega)
      rw [if_neg (by rw [nle (by omega) (by omega)]; omega), ginT (by omega) (by omega), if_pos rfl, gle, ncl (by omega), hR i c c1, gle, gle, nI_1, dig6_C hR hl f (i + 1) _ (by omega) (by omega), c2]
      rfl
theorem dig6_T (h : INV C cp np s F sz dp res) {K : K6} {p : Nat} (hp : p < np) : ∀ m f i x (B : gM) (cp1 k n : Nat), i + m = 5 → m < f → offA 193 C B → okc cp1 → rO B cp1 → ∃ B' cp' k' n', mX6_digest_L80 193 K f cp1 k n B x (nI p) (nI i) = K cp' (k + k') (n + n') B' (dC (rowOf (res p)) (foldW (told (res p)) m i x)) (nI p + 1) ∧ costB cp1 cp' k' n' (2 + (if i ≤ 3 then 2 else 0)) (121 + (if i ≤ 3 then 121 else 0)) ∧ offA 193 C B' ∧ rO B' cp'
  | m, 0, i, _, _, _, _, _, _, hf, _, _, _ => by omega
  | 0, f + 1, i, x, B, cp1, k, n, hi, hf, o, hc, hO => by
    obtain ⟨g1, g2, g3⟩ := inv_in h hp
    obtain ⟨B1, c2, k1, n1, e1, e2, e3, e4, e5⟩ := row_ok (N := 193) (Nat.le_refl _) (by omega) (RI_at h o hc hO hp)
    refine ⟨B1, c2, k1, n1, ?_, costB_le e2 (by omega) (by omega), offA_tr o e3, e4⟩
    show mX6_digest_b80 193 cp1 k n K (mX6_digest_L80 193 K f) B x (nI p) (nI i) = _
    unfold mX6_digest_b80 mX6_digest_b112
    have := dig6_C (K := K) (p := p) e5 (rowOf_len g2) (cp := c2) (k := k + k1) (n := n + n1) gF 0 x (by omega) (by have := rowOf_len g2; unfold gF; omega)
    rw [List.drop_zero] at this
    rw [lq5, if_pos (by rw [nle (by omega) (by omega)]; omega), bnd e1]
    dsimp only
    rw [gle, ofN, ← nI0, this]
    rfl
  | m + 1, f + 1, i, x, B, cp1, k, n, hi, hf, o, hc, hO => by
    obtain ⟨g1, g2, g3⟩ := inv_in h hp
    obtain ⟨B1, c2, k1, n1, e1, e2, e3, e4⟩ := typeTold_ok2 (N := 193) (w := i) (Nat.le_refl _) (by omega) (by omega) (RI_at h o hc hO hp)
    obtain ⟨B', cp', k', n', d1, d2, d3, d4⟩ := dig6_T h hp m f (i + 1) (x * 31 + (told (res p) i).toInt64) B1 c2 (k + k1) (n + n1) (by omega) (by omega) (offA_tr o e3) e2.1 e4
    refine ⟨B', cp', k1 + k', n1 + n', ?_, costB_le (costB_tr e2 d2) ?_ ?_, d3, d4⟩
    · show mX6_digest_b80 193 cp1 k n K (mX6_digest_L80 193 K f) B x (nI p) (nI i) = _
      unfold mX6_digest_b80 mX6_digest_b98
      rw [lq5, if_neg (by rw [nle (by omega) (by omega)]; omega), bnd e1]
      dsimp only
      rw [gle, gle, nI_1, d1, Nat.add_assoc, Nat.add_assoc]
      rfl
    · have : i = 0 ∨ i = 1 ∨ i = 2 ∨ i = 3 ∨ i = 4 := by omega
      rcases this with rfl | rfl | rfl | rfl | rfl <;> decide
    · have : i = 0 ∨ i = 1 ∨ i = 2 ∨ i = 3 ∨ i = 4 := by omega
      rcases this with rfl | rfl | rfl | rfl | rfl <;> decide
theorem dig6_F (h : INV C cp np s F sz dp res) {K : K6} {p : Nat} (hp : p < np) : ∀ m f i x (B : gM) (cp1 k n : Nat), i + m = 7 → m < f → offA 193 C B → okc cp1 → rO B cp1 → ∃ B' cp' k' n', mX6_digest_L49 193 K f cp1 k n B x (nI p) (nI i) = K cp' (k + k') (n + n') B' (dC (rowOf (res p)) (foldW (told (res p)) 5 0 (foldW (Vp F dp p) m i x))) (nI p + 1) ∧ costB cp1 cp' k' n' 4 242 ∧ offA 193 C B' ∧ rO B' cp'
  | m, 0, i, _, _, _, _, _, _, hf, _, _, _ => by omega
  | 0, f + 1, i, x, B, cp1, k, n, hi, hf, o, hc, hO => by
    obtain ⟨B', cp', k', n', d1, d2, d3, d4⟩ := dig6_T h (K := K) hp 5 gF 0 x B cp1 k n (by omega) (by unfold gF; omega) o hc hO
    refine ⟨B', cp', k', n', ?_, costB_le d2 (by decide) (by decide), d3, d4⟩
    show mX6_digest_b49 193 cp1 k n K (mX6_digest_L49 193 K f) B x (nI p) (nI i) = _
    unfold mX6_digest_b49
    rw [lq7, if_pos (by rw [nle (by omega) (by omega)]; omega), ← nI0, d1]
    rfl
  | m + 1, f + 1, i, x, B, cp1, k, n, hi, hf, o, hc, hO => by
    have hn := h.2.1
    obtain ⟨B', cp', k', n', d1, d2, d3, d4⟩ := dig6_F h (K := K) hp m f (i + 1) (x * 31 + (Vp F dp p i).toInt64) B cp1 k n (by omega) (by omega) o hc hO
    have hF : ∀ p, p < np → ∀ w, w < 6 → B 184 (6 * p + w) = F p w := fun p hp w hw => by rw [o _ _ (by omega)]; exact ((h.2.2.2.2.2.2.1 p hp).1 w hw).2
    have hv : mX6_partTold cp1 B (nI p) (nI i) = some (B, Vp F dp p i) := by
      unfold mX6_partTold mX6_partTold_b0 mX6_partTold_b20 Vp
      by_cases e : i = 6
      · subst e
        rw [lq6, if_pos (by rw [nle (by omega) (by omega)]; omega), bnd (depth6_ok hn hF h.2.2.2.2.2.2.2 45 p hp (by omega)), if_pos rfl]
      · rw [lq6, if_neg (by rw [nle (by omega) (by omega)]; omega), bnd (pa_w (by omega) (by omega)), hF p hp i (by omega), if_neg e]
    refine ⟨B', cp', k', n', ?_, d2, d3, d4⟩
    show mX6_digest_b49 193 cp1 k n K (mX6_digest_L49 193 K f) B x (nI p) (nI i) = _
    unfold mX6_digest_b49
    rw [lq7, if_neg (by rw [nle (by omega) (by omega)]; omega), bnd hv]
    dsimp only
    rw [gle, gle, nI_1, d1]
    rfl
theorem dig6_P (h : INV C cp np s F sz dp res) : ∀ m f i x (B : gM) (cp1 k n : Nat), i + m = np → m < f → offA 193 C B → okc cp1 → rO B cp1 → ∃ B' cp' k' n', mX6_digest_L38 193 f cp1 k n B x (nI i) = some (B', (cp', k + k', n + n'), foldP (Vp F dp) res m i x) ∧ costB cp1 cp' k' n' (4 * m) (242 * m) ∧ offA 193 C B' ∧ rO B' cp'
  | m, 0, i, _, _, _, _, _, _, hf, _, _, _ => by omega
  | 0, f + 1, i, x, B, cp1, k, n, hi, hf, o, hc, hO => by
    have hn := h.2.1
    refine ⟨B, cp1, 0, 0, ?_, ⟨hc, by omega, by omega, by omega⟩, o, hO⟩
    show mX6_digest_b38 193 cp1 k n (mX6_digest_L38 193 f) B x (nI i) = _
    unfold mX6_digest_b38
    rw [o _ _ (by omega), h.2.2.1, if_pos (by rw [nle (by omega) (by omega)]; omega)]
    rfl
  | m + 1, f + 1, i, x, B, cp1, k, n, hi, hf, o, hc, hO => by
    have hn := h.2.1
    obtain ⟨B1, c2, k1, n1, e1, e2, e3, e4⟩ := dig6_F h (K := mX6_digest_L38 193 f) (show i < np by omega) 7 gF 0 x B cp1 k n (by omega) (by unfold gF; omega) o hc hO
    obtain ⟨B', cp', k', n', d1, d2, d3, d4⟩ := dig6_P h m f (i + 1) (dC (rowOf (res i)) (foldW (told (res i)) 5 0 (foldW (Vp F dp i) 7 0 x))) B1 c2 (k + k1) (n + n1) (by omega) (by omega) e3 e2.1 e4
    refine ⟨B', cp', k1 + k', n1 + n', ?_, costB_le (costB_tr e2 d2) (by omega) (by omega), d3, d4⟩
    show mX6_digest_b38 193 cp1 k n (mX6_digest_L38 193 f) B x (nI i) = _
    unfold mX6_digest_b38
    rw [o _ _ (by omega), h.2.2.1, if_neg (by rw [nle (by omega) (by omega)]; omega), ← nI0, e1, nI_1, d1, Nat.add_assoc, Nat.add_assoc]
    rfl
theorem dig6_Q (h : INV C cp np s F sz dp res) : ∀ m f i x (B : gM) (cp1 k n : Nat), i + m = 6 → m < f → offA 193 C B → okc cp1 → rO B cp1 → ∃ B' cp' k' n', mX6_digest_L11 193 f cp1 k n B x (nI i) = some (B', (cp', k + k', n + n'), foldP (Vp F dp) res np 0 (foldW (fun w => nI (cntw res w np)) m i x)) ∧ costB cp1 cp' k' n' (4 * np) (242 * np) ∧ offA 193 C B' ∧ rO B' cp'
  | m, 0, i, _, _, _, _, _, _, hf, _, _, _ => by omega
  | 0, f + 1, i, x, B, cp1, k, n, hi, hf, o, hc, hO => by
    obtain ⟨B', cp', k', n', d1, d2, d3, d4⟩ := dig6_P h np gF 0 x B cp1 k n (by omega) (by have := h.2.1; unfold gF; omega) o hc hO
    refine ⟨B', cp', k', n', ?_, d2, d3, d4⟩
    show mX6_digest_b11 193 cp1 k n (mX6_digest_L11 193 f) B x (nI i) = _
    unfold mX6_digest_b11
    rw [lq6, if_pos (by rw [nle (by omega) (by omega)]; omega), ← nI0, d1]
    rfl
  | m + 1, f + 1, i, x, B, cp1, k, n, hi, hf, o, hc, hO => by
    obtain ⟨B1, c2, k1, n1, e1, e2, e3, e4⟩ := cnt6_ok h (w := i) (by omega) o hc hO
    obtain ⟨B', cp', k', n', d1, d2, d3, d4⟩ := dig6_Q h m f (i + 1) (x * 31 + (nI (cntw res i np)).toInt64) B1 c2 (k + k1) (n + n1) (by omega) (by omega) e3 e2.1 e4
    refine ⟨B', cp', k1 + k', n1 + n', ?_, costB_le (costB_tr e2 d2) (by omega) (by omega), d3, d4⟩
    show mX6_digest_b11 193 cp1 k n (mX6_digest_L11 193 f) B x (nI i) = _
    unfold mX6_digest_b11 mX6_digest_b27
    rw [lq6, if_neg (by rw [nle (by omega) (by omega)]; omega), bnd e1]
    dsimp only
    rw [gle, gle, nI_1, d1, Nat.add_assoc, Nat.add_assoc]
    rfl
theorem k_digest (h : INV A cp np s F sz dp res) : DOK cp s (mX5_digest A) (fun B => mX6_digest 193 cp B) := by
  refine DOK_ask (v := foldP (Vp F dp) res np 0 (foldW (fun w => nI (cntw res w np)) 6 0 1597)) h ?_ (fun hC => ?_)
  · unfold mX5_digest mX5_digest_b0
    rw [← nI0]
    exact dig5_Q h 6 gF 0 1597 (by omega) (by unfold gF; omega)
  · obtain ⟨B', cp', k', n', e1, e2, e3, e4⟩ := dig6_Q hC 6 gF 0 1597 _ cp 0 0 (by omega) (by unfold gF; omega) (fun a x _ => rfl) hC.2.2.2.1 hC.2.2.2.2.1
    refine ⟨B', cp', 0 + k', 0 + n', ?_, by rw [Nat.zero_add, Nat.zero_add]; exact costB_le e2 (by have := h.2.1; omega) (by have := h.2.1; omega), e3, e4⟩
    show mX6_digest 193 cp A = _
    unfold mX6_digest mX6_digest_b0
    rw [gle, ← nI0]
    rw [← nI0] at e1
    exact e1
end DI
