/-! ONE TYPE FITS THE OTHER -/
theorem tk_pos {m c : Nat} {r : Rw} (h : tk m (c :: r) = some 0) : ∃ k, m = k + 1 ∧ tk (k + ar c) r = some 0 := by
  cases m with
  | zero => simp [tk] at h
  | succ k => exact ⟨k, rfl, h⟩
theorem tk_ne {k : Nat} {r : Rw} (h : tk (k + 1) r = some 0) : 0 < r.length := by
  cases r with
  | nil => simp [tk] at h
  | cons c t => exact Nat.succ_pos _
theorem tk_nil {k : Nat} (h : tk k [] = some 0) : k = 0 := by simpa [tk] using h
theorem tk_0 {r : Rw} (h : tk 0 r = some 0) : r = [] := by
  cases r with
  | nil => rfl
  | cons c t => simp [tk] at h
theorem tk_le : ∀ (u : Rw) (k : Nat), tk k u = some 0 → k ≤ u.length
  | [], k, h => by rw [tk_nil h]; exact Nat.le_refl _
  | c :: v, k, h => by
    obtain ⟨k', rfl, hv⟩ := tk_pos h
    have := tk_le v _ hv
    simp only [List.length_cons]
    omega
theorem drop_pre {S u w : Rw} {t : Nat} (h : S.drop t = u ++ w) : S.drop (t + u.length) = w := by
  rw [← List.drop_drop, h, List.drop_left]
theorem drop_len {S u w : Rw} {t : Nat} (h : S.drop t = u ++ w) (ht : t ≤ S.length) : t + u.length ≤ S.length := by
  have := congrArg List.length h
  rw [List.length_drop, List.length_append] at this
  omega
section FI
variable {A : gM} {S R : Rw}
theorem behind_ok {cp x : Nat} (hS : rowIn A x S) (hl : S.length ≤ 60) (hc : ∀ c ∈ S, c < 100) : ∀ (f t : Nat) (u w : Rw), S.drop t = u ++ w → Ty u → u.length < f → mX6_behind cp f A x S.length (nI t) = some (A, nI (t + u.length))
  | 0, t, u, w, _, _, hf => by omega
  | f + 1, t, [], w, _, hu, _ => absurd rfl (Ty_ne hu)
  | f + 1, t, c :: v, w, h, hu, hf => by
    have ht : t < S.length := by
      have := congrArg List.length h
      rw [List.length_drop] at this
      simp at this
      omega
    obtain ⟨d, d1, d2, d3⟩ := drop_at ht
    rw [d2] at h
    obtain ⟨e1, e2⟩ := List.cons.inj h
    subst e1
    have bd := hc d d3
    have hv : tk (0 + ar d) v = some 0 := hu
    show mX6_behind_b0 cp (mX6_behind cp f) A x S.length (nI t) = _
    unfold mX6_behind_b0 mX6_behind_b31
    rw [ginT (by omega) (by omega), if_pos rfl, if_pos rfl, ncl (by omega), hS t d d1]
    have pair : d = 2 ∨ d = 3 → mX6_behind_b14 cp (mX6_behind cp f) A x S.length (nI t) = some (A, nI (t + (d :: v).length)) := fun hd => by
      rw [show ar d = 2 from if_pos hd] at hv
      obtain ⟨p, q, r1, r2, r3⟩ := tk_split v.length v 1 (Nat.le_refl _) hv
      have lv : v.length = p.length + q.length := by rw [r1, List.length_append]
      have h1 : S.drop (t + 1) = p ++ (q ++ w) := e2.trans (by rw [r1]; exact List.append_assoc p q w)
      have h2 : S.drop (t + 1 + p.length) = q ++ w := drop_pre h1
      unfold mX6_behind_b14 mX6_behind_b31
      simp only [List.length_cons] at hf ⊢
      rw [nI_1, bnd (behind_ok hS hl hc f (t + 1) p (q ++ w) h1 r2 (by omega))]
      dsimp only
      rw [bnd (behind_ok hS hl hc f (t + 1 + p.length) q w h2 r3 (by omega)), show t + 1 + p.length + q.length = t + (v.length + 1) by omega]
    by_cases h2 : d = 2
    · rw [if_pos (by rw [h2, lq2]), pair (Or.inl h2)]
    · rw [if_neg (by rw [lq2, neq (by omega) (by omega)]; exact h2)]
      by_cases h3 : d = 3
      · rw [if_pos (by rw [h3, lq3]), pair (Or.inr h3)]
      · rw [if_neg (by rw [lq3, neq (by omega) (by omega)]; exact h3), nI_1]
        rw [show ar d = 0 from if_neg (by omega)] at hv
        rw [tk_0 hv]
        rfl
theorem endOf_L {b : Nat} (hb : b < 40) (hS : rowIn A (45 + b) S) (hl : S.length ≤ 60) (hc : ∀ c ∈ S, c < 100) : ∀ (f t k : Nat) (u w : Rw), S.drop t = u ++ w → t ≤ S.length → tk k u = some 0 → u.length < f → k ≤ 100 → mX3_endOf_L13 f A (nI b) (nI S.length) (nI k) (nI t) = some (A, nI (t + u.length))
  | 0, t, k, u, w, _, _, _, hf, _ => by omega
  | f + 1, t, k, [], w, _, _, hk, _, _ => by
    have := tk_nil hk
    subst this
    show mX3_endOf_b13 (mX3_endOf_L13 f) A (nI b) (nI S.length) (nI 0) (nI t) = _
    unfold mX3_endOf_b13 mX3_endOf_b54
    rw [if_pos (by rw [nI0]; decide)]
    rfl
  | f + 1, t, k, c :: v, w, h, _, hk, hf, hb2 => by
    have ht : t < S.length := by
      have := congrArg List.length h
      rw [List.length_drop] at this
      simp at this
      omega
    obtain ⟨d, d1, d2, d3⟩ := drop_at ht
    rw [d2] at h
    obtain ⟨e1, e2⟩ := List.cons.inj h
    subst e1
    have bd := hc d d3
    obtain ⟨k', rfl, hv⟩ := tk_pos hk
    simp only [List.length_cons] at hf ⊢
    have ub := drop_len (t := t + 1) (S := S) (u := v) (w := w) e2 (by omega)
    show mX3_endOf_b13 (mX3_endOf_L13 f) A (nI b) (nI S.length) (nI (k' + 1)) (nI t) = _
    unfold mX3_endOf_b13 mX3_endOf_b45
    rw [if_neg (by rw [le0F (by omega) (by omega)]; exact not_false), if_neg (by rw [nle (by omega) (by omega)]; omega), bnd (codeAt_k hb (by omega)), hS t d d1]
    dsimp only
    by_cases hd : d = 2 ∨ d = 3
    · rw [show ar d = 2 from if_pos hd] at hv
      have kb : k' + 2 ≤ 100 := by have := tk_le v _ hv; omega
      rw [bnd (isPair3T hd)]
      dsimp only
      rw [if_neg (by decide), gle, gle, nI_1, nI_1, endOf_L hb hS hl hc f (t + 1) (k' + 2) v w e2 (by omega) hv (by omega) kb, show t + 1 + v.length = t + (v.length + 1) by omega]
    · rw [show ar d = 0 from if_neg hd] at hv
      rw [bnd (isPair3F (fun q => hd (Or.inl q)) (fun q => hd (Or.inr q)) (by omega))]
      dsimp only
      rw [if_pos rfl, gle, gle, nI_1, addm1 (by omega), endOf_L hb hS hl hc f (t + 1) (k' + 1 - 1) v w e2 (by omega) hv (by omega) (by omega), show t + 1 + v.length = t + (v.length + 1) by omega]
def cmpE (S : Rw) (p t : Nat) : Nat → Nat → Bool
  | 0, _ => true
  | m + 1, j => if S[p + j]? = S[t + j]? then cmpE S p t m (j + 1) else false
theorem cmpE_s {t : Nat} : ∀ m j, cmpE S t t m j = true
  | 0, _ => rfl
  | m + 1, j => by
    unfold cmpE
    rw [if_pos rfl]
    exact cmpE_s m (j + 1)
theorem stands_L {b p t : Nat} (hb : b < 40) (hS : rowIn A (45 + b) S) (hl : S.length ≤ 60) (hc : ∀ c ∈ S, c < 100) (hp : p ≤ t) : ∀ (m f j : Nat), t + (j + m) ≤ S.length → m < f → mX3_standsFor_L42 f A (nI b) (nI t) (nI (t + (j + m))) (nI p) (nI j) = some (A, if cmpE S p t m j = true then 1 else 0)
  | m, 0, j, _, hf => by omega
  | 0, f + 1, j, ht, _ => by
    show mX3_standsFor_b42 (mX3_standsFor_L42 f) A (nI b) (nI t) (nI (t + (j + 0))) (nI p) (nI j) = _
    unfold mX3_standsFor_b42
    rw [subn (by omega), if_pos (by rw [nle (by omega) (by omega)]; omega), if_pos (Or.inr rfl)]
    rfl
  | m + 1, f + 1, j, ht, hf => by
    show mX3_standsFor_b42 (mX3_standsFor_L42 f) A (nI b) (nI t) (nI (t + (j + (m + 1)))) (nI p) (nI j) = _
    obtain ⟨c, c1, -, c3⟩ := drop_at (R := S) (k := p + j) (by omega)
    obtain ⟨d, d1, -, d3⟩ := drop_at (R := S) (k := t + j) (by omega)
    have bc := hc c c3
    have bd := hc d d3
    unfold mX3_standsFor_b42 cmpE
    rw [subn (by omega), if_neg (by rw [nle (by omega) (by omega)]; omega), nI_add, bnd (codeAt_k hb (by omega)), hS _ c c1]
    dsimp only
    rw [nI_add, bnd (codeAt_k hb (by omega)), hS _ d d1]
    dsimp only
    rw [c1, d1]
    by_cases q : c = d
    · subst q
      have ih := stands_L hb hS hl hc hp m f (j + 1) (by omega) (by omega)
      rw [show j + 1 + m = j + (m + 1) by omega] at ih
      rw [if_pos rfl, if_pos rfl, gle, nI_1, ih]
    · rw [if_neg (fun y => q ((nI_eq (by omega) (by omega)).mp y)), if_pos (Or.inl rfl), if_neg (fun y => q (Option.some.inj y))]
      rfl
abbrev KF := Nat → Nat → Nat → gM → Nat → Nat → Int32 → Nat → Int32 → Int32 → Option (gM × (Nat × Nat × Nat) × Int32)
theorem stands6_L {N p t cp k n lr : Nat} {K : KF} {x8 x9 : Int32} (hS : rowIn A (N + 1) S) (hl : S.length ≤ 60) (hc : ∀ c ∈ S, c < 100) (hp : p ≤ t) : ∀ (m f j : Nat), t + (j + m) ≤ S.length → m < f → mX6_fits_L177 N K f cp k n A S.length 71 (nI t) lr x8 x9 (nI (t + (j + m))) (nI p) (nI j) = if cmpE S p t m j = true then K cp k n A S.length 71 (nI (t + (j + m))) lr x8 (x9 + 1) else some (A, (cp, k, n), 0)
  | m, 0, j, _, hf => by omega
  | 0, f + 1, j, ht, _ => by
    show mX6_fits_b177 N cp k n K (mX6_fits_L177 N K f) A S.length 71 (nI t) lr x8 x9 (nI (t + (j + 0))) (nI p) (nI j) = _
    unfold mX6_fits_b177 mX6_fits_b218
    rw [subn (by omega), if_pos (by rw [nle (by omega) (by omega)]; omega), gle]
    rfl
  | m + 1, f + 1, j, ht, hf => by
    show mX6_fits_b177 N cp k n K (mX6_fits_L177 N K f) A S.length 71 (nI t) lr x8 x9 (nI (t + (j + (m + 1)))) (nI p) (nI j) = _
    obtain ⟨c, c1, -, c3⟩ := drop_at (R := S) (k := p + j) (by omega)
    obtain ⟨d, d1, -, d3⟩ := drop_at (R := S) (k := t + j) (by omega)
    have bc := hc c c3
    have bd := hc d d3
    unfold mX6_fits_b177 cmpE
    rw [subn (by omega), if_neg (by rw [nle (by omega) (by omega)]; omega), nI_add, nI_add, ginT (by omega) (by omega), if_pos rfl, ginT (by omega) (by omega), if_pos rfl, ncl (by omega), ncl (by omega), hS _ c c1, hS _ d d1, c1, d1]
    by_cases q : c = d
    · subst q
      have ih := stands6_L (N := N) (cp := cp) (k := k) (n := n) (lr := lr) (K := K) (x8 := x8) (x9 := x9) hS hl hc hp m f (j + 1) (by omega) (by omega)
      rw [show j + 1 + m = j + (m + 1) by omega] at ih
      rw [if_pos rfl, if_pos rfl, gle, nI_1, ih]
    · rw [if_neg (fun y => q ((nI_eq (by omega) (by omega)).mp y)), if_pos (Or.inl rfl), if_neg (fun y => q (Option.some.inj y)), if_neg (by decide)]
def enc : Option Nat → Int32
  | none => -1
  | some p => nI p
theorem fits_L {a b N cp k n : Nat} (ha : a < 40) (hb : b < 40) (hN : 193 ≤ N) (lR : R.length ≤ 60) (lS : S.length ≤ 60) (cR : ∀ c ∈ R, c < 4 ∨ (10 ≤ c ∧ c < 70)) (cS : ∀ c ∈ S, c < 100) : ∀ (f i t m : Nat) (g : Nat → Option Nat) (A : gM), i ≤ R.length → R.length - i < f → tk m (R.drop i) = some 0 → tk m (S.drop t) = some 0 → t ≤ S.length → (∀ j p, g j = some p → p ≤ t) → (∀ j, j < 60 → A 127 j = enc (g j)) → rowIn A (45 + a) R → rowIn A (45 + b) S → A (86 + b) 2 = nI S.length →
    ∃ A' v, (v = 0 ∨ v = 1) ∧ mX3_covers_L37 f A (nI a) (nI b) (nI R.length) (nI t + (-1)) (nI i) = some (A', v) ∧ (∀ x w, x ≠ 127 → A' x w = A x w) ∧
      ∀ f' B, R.length - i < f' → (∀ j, j < 60 → B (N + 2) (10 + j) = enc (g j)) → rowIn B N R → rowIn B (N + 1) S → ∃ B', mX6_fits_L103 N f' cp k n B S.length 71 (nI t) R.length (nI R.length) (nI i) = some (B', (cp, k, n), v) ∧ ∀ x w, x ≠ N + 2 → B' x w = B x w := by
  sorry
end FI
