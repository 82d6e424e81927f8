/-! ONE TYPE FITS THE OTHER -/
theorem tk_pos {m c : Nat} {r : Rw} (h : tk m (c :: r) = some 0) : ∃ k, m = k + 1 ∧ tk (k + ar c) r = some 0 := by
  cases m with
  | zero => simp [tk] at h
  | succ k => exact ⟨k, rfl, h⟩
theorem tk_ne {k : Nat} {r : Rw} (h : tk (k + 1) r = some 0) : 0 < r.length := by
  cases r with
  | nil => simp [tk] at h
  | cons c t => exact Nat.succ_pos _
theorem tk_nil {k : Nat} (h : tk k [] = some 0) : k = 0 := by simpa [tk] using h
theorem tk_0 {r : Rw} (h : tk 0 r = some 0) : r = [] := by
  cases r with
  | nil => rfl
  | cons c t => simp [tk] at h
theorem tk_le : ∀ (u : Rw) (k : Nat), tk k u = some 0 → k ≤ u.length
  | [], k, h => by rw [tk_nil h]; exact Nat.le_refl _
  | c :: v, k, h => by
    obtain ⟨k', rfl, hv⟩ := tk_pos h
    have := tk_le v _ hv
    simp only [List.length_cons]
    omega
theorem drop_pre {S u w : Rw} {t : Nat} (h : S.drop t = u ++ w) : S.drop (t + u.length) = w := by
  rw [← List.drop_drop, h, List.drop_left]
theorem drop_len {S u w : Rw} {t : Nat} (h : S.drop t = u ++ w) (ht : t ≤ S.length) : t + u.length ≤ S.length := by
  have := congrArg List.length h
  rw [List.length_drop, List.length_append] at this
  omega
section FI
variable {A : gM} {S R : Rw}
theorem behind_ok {cp x : Nat} (hS : rowIn A x S) (hl : S.length ≤ 60) (hc : ∀ c ∈ S, c < 100) : ∀ (f t : Nat) (u w : Rw), S.drop t = u ++ w → Ty u → u.length < f → mX6_behind cp f A x S.length (nI t) = some (A, nI (t + u.length))
  | 0, t, u, w, _, _, hf => by omega
  | f + 1, t, [], w, _, hu, _ => absurd rfl (Ty_ne hu)
  | f + 1, t, c :: v, w, h, hu, hf => by
    have ht : t < S.length := by
      have := congrArg List.length h
      rw [List.length_drop] at this
      simp at this
      omega
    obtain ⟨d, d1, d2, d3⟩ := drop_at ht
    rw [d2] at h
    obtain ⟨e1, e2⟩ := List.cons.inj h
    subst e1
    have bd := hc d d3
    have hv : tk (0 + ar d) v = some 0 := hu
    show mX6_behind_b0 cp (mX6_behind cp f) A x S.length (nI t) = _
    unfold mX6_behind_b0 mX6_behind_b31
    rw [ginT (by omega) (by omega), if_pos rfl, if_pos rfl, ncl (by omega), hS t d d1]
    have pair : d = 2 ∨ d = 3 → mX6_behind_b14 cp (mX6_behind cp f) A x S.length (nI t) = some (A, nI (t + (d :: v).length)) := fun hd => by
      rw [show ar d = 2 from if_pos hd] at hv
      obtain ⟨p, q, r1, r2, r3⟩ := tk_split v.length v 1 (Nat.le_refl _) hv
      have lv : v.length = p.length + q.length := by rw [r1, List.length_append]
      have h1 : S.drop (t + 1) = p ++ (q ++ w) := e2.trans (by rw [r1]; exact List.append_assoc p q w)
      have h2 : S.drop (t + 1 + p.length) = q ++ w := drop_pre h1
      unfold mX6_behind_b14 mX6_behind_b31
      simp only [List.length_cons] at hf ⊢
      rw [nI_1, bnd (behind_ok hS hl hc f (t + 1) p (q ++ w) h1 r2 (by omega))]
      dsimp only
      rw [bnd (behind_ok hS hl hc f (t + 1 + p.length) q w h2 r3 (by omega)), show t + 1 + p.length + q.length = t + (v.length + 1) by omega]
    by_cases h2 : d = 2
    · rw [if_pos (by rw [h2, lq2]), pair (Or.inl h2)]
    · rw [if_neg (by rw [lq2, neq (by omega) (by omega)]; exact h2)]
      by_cases h3 : d = 3
      · rw [if_pos (by rw [h3, lq3]), pair (Or.inr h3)]
      · rw [if_neg (by rw [lq3, neq (by omega) (by omega)]; exact h3), nI_1]
        rw [show ar d = 0 from if_neg (by omega)] at hv
        rw [tk_0 hv]
        rfl
theorem endOf_L {b : Nat} (hb : b < 40) (hS : rowIn A (45 + b) S) (hl : S.length ≤ 60) (hc : ∀ c ∈ S, c < 100) : ∀ (f t k : Nat) (u w : Rw), S.drop t = u ++ w → t ≤ S.length → tk k u = some 0 → u.length < f → k ≤ 100 → mX3_endOf_L13 f A (nI b) (nI S.length) (nI k) (nI t) = some (A, nI (t + u.length))
  | 0, t, k, u, w, _, _, _, hf, _ => by omega
  | f + 1, t, k, [], w, _, _, hk, _, _ => by
    have := tk_nil hk
    subst this
    show mX3_endOf_b13 (mX3_endOf_L13 f) A (nI b) (nI S.length) (nI 0) (nI t) = _
    unfold mX3_endOf_b13 mX3_endOf_b54
    rw [if_pos (by rw [nI0]; decide)]
    rfl
  | f + 1, t, k, c :: v, w, h, _, hk, hf, hb2 => by
    have ht : t < S.length := by
      have := congrArg List.length h
      rw [List.length_drop] at this
      simp at this
      omega
    obtain ⟨d, d1, d2, d3⟩ := drop_at ht
    rw [d2] at h
    obtain ⟨e1, e2⟩ := List.cons.inj h
    subst e1
    have bd := hc d d3
    obtain ⟨k', rfl, hv⟩ := tk_pos hk
    simp only [List.length_cons] at hf ⊢
    have ub := drop_len (t := t + 1) (S := S) (u := v) (w := w) e2 (by omega)
    show mX3_endOf_b13 (mX3_endOf_L13 f) A (nI b) (nI S.length) (nI (k' + 1)) (nI t) = _
    unfold mX3_endOf_b13 mX3_endOf_b45
    rw [if_neg (by rw [le0F (by omega) (by omega)]; exact not_false), if_neg (by rw [nle (by omega) (by omega)]; omega), bnd (codeAt_k hb (by omega)), hS t d d1]
    dsimp only
    by_cases hd : d = 2 ∨ d = 3
    · rw [show ar d = 2 from if_pos hd] at hv
      have kb : k' + 2 ≤ 100 := by have := tk_le v _ hv; omega
      rw [bnd (isPair3T hd)]
      dsimp only
      rw [if_neg (by decide), gle, gle, nI_1, nI_1, endOf_L hb hS hl hc f (t + 1) (k' + 2) v w e2 (by omega) hv (by omega) kb, show t + 1 + v.length = t + (v.length + 1) by omega]
    · rw [show ar d = 0 from if_neg hd] at hv
      rw [bnd (isPair3F (fun q => hd (Or.inl q)) (fun q => hd (Or.inr q)) (by omega))]
      dsimp only
      rw [if_pos rfl, gle, gle, nI_1, addm1 (by omega), endOf_L hb hS hl hc f (t + 1) (k' + 1 - 1) v w e2 (by omega) hv (by omega) (by omega), show t + 1 + v.length = t + (v.length + 1) by omega]
def cmpE (S : Rw) (p t : Nat) : Nat → Nat → Bool
  | 0, _ => true
  | m + 1, j => if S[p + j]? = S[t + j]? then cmpE S p t m (j + 1) else false
theorem cmpE_s {t : Nat} : ∀ m j, cmpE S t t m j = true
  | 0, _ => rfl
  | m + 1, j => by
    unfold cmpE
    rw [if_pos rfl]
    exact cmpE_s m (j + 1)
theorem stands_L {b p t : Nat} (hb : b < 40) (hS : rowIn A (45 + b) S) (hl : S.length ≤ 60) (hc : ∀ c ∈ S, c < 100) (hp : p ≤ t) : ∀ (m f j : Nat), t + (j + m) ≤ S.length → m < f → mX3_standsFor_L42 f A (nI b) (nI t) (nI (t + (j + m))) (nI p) (nI j) = some (A, if cmpE S p t m j = true then 1 else 0)
  | m, 0, j, _, hf => by omega
  | 0, f + 1, j, ht, _ => by
    show mX3_standsFor_b42 (mX3_standsFor_L42 f) A (nI b) (nI t) (nI (t + (j + 0))) (nI p) (nI j) = _
    unfold mX3_standsFor_b42
    rw [subn (by omega), if_pos (by rw [nle (by omega) (by omega)]; omega), if_pos (Or.inr rfl)]
    rfl
  | m + 1, f + 1, j, ht, hf => by
    show mX3_standsFor_b42 (mX3_standsFor_L42 f) A (nI b) (nI t) (nI (t + (j + (m + 1)))) (nI p) (nI j) = _
    obtain ⟨c, c1, -, c3⟩ := drop_at (R := S) (k := p + j) (by omega)
    obtain ⟨d, d1, -, d3⟩ := drop_at (R := S) (k := t + j) (by omega)
    have bc := hc c c3
    have bd := hc d d3
    unfold mX3_standsFor_b42 cmpE
    rw [subn (by omega), if_neg (by rw [nle (by omega) (by omega)]; omega), nI_add, bnd (codeAt_k hb (by omega)), hS _ c c1]
    dsimp only
    rw [nI_add, bnd (codeAt_k hb (by omega)), hS _ d d1]
    dsimp only
    rw [c1, d1]
    by_cases q : c = d
    · subst q
      have ih := stands_L hb hS hl hc hp m f (j + 1) (by omega) (by omega)
      rw [show j + 1 + m = j + (m + 1) by omega] at ih
      rw [if_pos rfl, if_pos rfl, gle, nI_1, ih]
    · rw [if_neg (fun y => q ((nI_eq (by omega) (by omega)).mp y)), if_pos (Or.inl rfl), if_neg (fun y => q (Option.some.inj y))]
      rfl
abbrev KF := Nat → Nat → Nat → gM → Nat → Nat → Int32 → Nat → Int32 → Int32 → Option (gM × (Nat × Nat × Nat) × Int32)
theorem stands6_L {N p t cp k n lr : Nat} {K : KF} {x8 x9 : Int32} (hS : rowIn A (N + 1) S) (hl : S.length ≤ 60) (hc : ∀ c ∈ S, c < 100) (hp : p ≤ t) : ∀ (m f j : Nat), t + (j + m) ≤ S.length → m < f → mX6_fits_L177 N K f cp k n A S.length 71 (nI t) lr x8 x9 (nI (t + (j + m))) (nI p) (nI j) = if cmpE S p t m j = true then K cp k n A S.length 71 (nI (t + (j + m))) lr x8 (x9 + 1) else some (A, (cp, k, n), 0)
  | m, 0, j, _, hf => by omega
  | 0, f + 1, j, ht, _ => by
    show mX6_fits_b177 N cp k n K (mX6_fits_L177 N K f) A S.length 71 (nI t) lr x8 x9 (nI (t + (j + 0))) (nI p) (nI j) = _
    unfold mX6_fits_b177 mX6_fits_b218
    rw [subn (by omega), if_pos (by rw [nle (by omega) (by omega)]; omega), gle]
    rfl
  | m + 1, f + 1, j, ht, hf => by
    show mX6_fits_b177 N cp k n K (mX6_fits_L177 N K f) A S.length 71 (nI t) lr x8 x9 (nI (t + (j + (m + 1)))) (nI p) (nI j) = _
    obtain ⟨c, c1, -, c3⟩ := drop_at (R := S) (k := p + j) (by omega)
    obtain ⟨d, d1, -, d3⟩ := drop_at (R := S) (k := t + j) (by omega)
    have bc := hc c c3
    have bd := hc d d3
    unfold mX6_fits_b177 cmpE
    rw [subn (by omega), if_neg (by rw [nle (by omega) (by omega)]; omega), nI_add, nI_add, ginT (by omega) (by omega), if_pos rfl, ginT (by omega) (by omega), if_pos rfl, ncl (by omega), ncl (by omega), hS _ c c1, hS _ d d1, c1, d1]
    by_cases q : c = d
    · subst q
      have ih := stands6_L (N := N) (cp := cp) (k := k) (n := n) (lr := lr) (K := K) (x8 := x8) (x9 := x9) hS hl hc hp m f (j + 1) (by omega) (by omega)
      rw [show j + 1 + m = j + (m + 1) by omega] at ih
      rw [if_pos rfl, if_pos rfl, gle, nI_1, ih]
    · rw [if_neg (fun y => q ((nI_eq (by omega) (by omega)).mp y)), if_pos (Or.inl rfl), if_neg (fun y => q (Option.some.inj y)), if_neg (by decide)]
def enc : Option Nat → Int32
  | none => -1
  | some p => nI p
theorem fits_L {a b N cp k n : Nat} (ha : a < 40) (hb : b < 40) (hN : 193 ≤ N) (lR : R.length ≤ 60) (lS : S.length ≤ 60) (cR : ∀ c ∈ R, c < 4 ∨ (10 ≤ c ∧ c < 70)) (cS : ∀ c ∈ S, c < 100) : ∀ (f i t m : Nat) (g : Nat → Option Nat) (A : gM), i ≤ R.length → R.length - i < f → tk m (R.drop i) = some 0 → tk m (S.drop t) = some 0 → t ≤ S.length → (∀ j p, g j = some p → p ≤ t) → (∀ j, j < 60 → A 127 j = enc (g j)) → rowIn A (45 + a) R → rowIn A (45 + b) S → A (86 + b) 2 = nI S.length →
    ∃ A' v, (v = 0 ∨ v = 1) ∧ mX3_covers_L37 f A (nI a) (nI b) (nI R.length) (nI t) (nI i) = some (A', v) ∧ (∀ x w, x ≠ 127 → A' x w = A x w) ∧
      ∀ f' B, R.length - i < f' → (∀ j, j < 60 → B (N + 2) (10 + j) = enc (g j)) → rowIn B N R → rowIn B (N + 1) S → ∃ B', mX6_fits_L103 N f' cp k n B S.length 71 (nI t) R.length (nI R.length) (nI i) = some (B', (cp, k, n), v) ∧ ∀ x w, x ≠ N + 2 → B' x w = B x w
  | 0, i, _, _, _, _, _, hf, _, _, _, _, _, _, _, _ => by omega
  | f + 1, i, t, m, g, A, hi, hf, hmR, hmS, ht, hg, hA, rA, rB, hlen => by
    by_cases e : i = R.length
    · refine ⟨A, 1, Or.inr rfl, ?_, fun _ _ _ => rfl, fun f' B hf' hB rN rN1 => ?_⟩
      · show mX3_covers_b37 (mX3_covers_L37 f) A (nI a) (nI b) (nI R.length) (nI t) (nI i) = _
        unfold mX3_covers_b37
        rw [if_pos (by rw [nle (by omega) (by omega)]; omega), if_pos (Or.inr rfl)]
      · obtain ⟨f', rfl⟩ : ∃ g', f' = g' + 1 := ⟨f' - 1, by omega⟩
        refine ⟨B, ?_, fun _ _ _ => rfl⟩
        show mX6_fits_b103 N cp k n (mX6_fits_L103 N f') B S.length 71 (nI t) R.length (nI R.length) (nI i) = _
        unfold mX6_fits_b103
        rw [if_pos (by rw [nle (by omega) (by omega)]; omega), if_pos (Or.inr rfl)]
    · obtain ⟨c, c1, c2, c3⟩ := drop_at (R := R) (k := i) (by omega)
      have bc := cR c c3
      rw [c2] at hmR
      obtain ⟨m', rfl, hmR'⟩ := tk_pos hmR
      have hpos := tk_ne hmS
      rw [List.length_drop] at hpos
      obtain ⟨u, w, hu, Tu, hw⟩ := tk_split _ _ m' (Nat.le_refl _) hmS
      obtain ⟨d, d1, d2, d3⟩ := drop_at (R := S) (k := t) (by omega)
      have bd := cS d d3
      have lu := drop_len hu (by omega)
      have hd' := drop_pre hu
      have bh : ∀ B, rowIn B (N + 1) S → mX6_behind cp 62 B (N + 1) S.length (nI t) = some (B, nI (t + u.length)) := fun B h => behind_ok h lS cS 62 t u w hu Tu (by omega)
      have upos : 0 < u.length := tk_ne (k := 0) Tu
      by_cases c4 : c < 4
      · by_cases q : d = c
        · subst q
          have hmS' : tk (m' + ar d) (S.drop (t + 1)) = some 0 := by rw [d2] at hmS; exact hmS
          obtain ⟨A', v, hv, p1, p2, p3⟩ := fits_L (cp := cp) (k := k) (n := n) ha hb hN lR lS cR cS f (i + 1) (t + 1) (m' + ar d) g A (by omega) (by omega) hmR' hmS' (by omega) (fun j p h => by have := hg j p h; omega) hA rA rB hlen
          refine ⟨A', v, hv, ?_, p2, fun f' B hf' hB rN rN1 => ?_⟩
          · show mX3_covers_b37 (mX3_covers_L37 f) A (nI a) (nI b) (nI R.length) (nI t) (nI i) = _
            unfold mX3_covers_b37 mX3_covers_b107
            rw [if_neg (by rw [nle (by omega) (by omega)]; omega), bnd (codeAt_k ha (by omega)), rA i d c1]
            dsimp only
            rw [gle, nI_1, if_pos (by rw [lq10, nlt (by omega) (by omega)]; omega), bnd (codeAt_k hb (by omega)), rB t d d1]
            dsimp only
            rw [if_pos rfl, gle, nI_1, p1]
          · obtain ⟨f', rfl⟩ : ∃ g', f' = g' + 1 := ⟨f' - 1, by omega⟩
            obtain ⟨B', z1, z2⟩ := p3 f' B (by omega) hB rN rN1
            refine ⟨B', ?_, z2⟩
            show mX6_fits_b103 N cp k n (mX6_fits_L103 N f') B S.length 71 (nI t) R.length (nI R.length) (nI i) = _
            unfold mX6_fits_b103 mX6_fits_b218
            rw [if_neg (by rw [nle (by omega) (by omega)]; omega), ginT (by omega) (by omega), if_pos rfl, gle, ncl (by omega), rN i d c1, bnd (bh B rN1)]
            dsimp only
            rw [if_neg (by rw [lq10, nle (by omega) (by omega)]; omega), ginT (by omega) (by omega), if_pos rfl, ncl (by omega), if_pos (rN1 t d d1), gle, gle, nI_1, nI_1, z1]
        · refine ⟨A, 0, Or.inl rfl, ?_, fun _ _ _ => rfl, fun f' B hf' hB rN rN1 => ?_⟩
          · show mX3_covers_b37 (mX3_covers_L37 f) A (nI a) (nI b) (nI R.length) (nI t) (nI i) = _
            unfold mX3_covers_b37 mX3_covers_b107
            rw [if_neg (by rw [nle (by omega) (by omega)]; omega), bnd (codeAt_k ha (by omega)), rA i c c1]
            dsimp only
            rw [gle, nI_1, if_pos (by rw [lq10, nlt (by omega) (by omega)]; omega), bnd (codeAt_k hb (by omega)), rB t d d1]
            dsimp only
            rw [if_neg (fun y => q ((nI_eq (by omega) (by omega)).mp y)), if_pos (Or.inl rfl)]
          · obtain ⟨f', rfl⟩ : ∃ g', f' = g' + 1 := ⟨f' - 1, by omega⟩
            refine ⟨B, ?_, fun _ _ _ => rfl⟩
            show mX6_fits_b103 N cp k n (mX6_fits_L103 N f') B S.length 71 (nI t) R.length (nI R.length) (nI i) = _
            unfold mX6_fits_b103 mX6_fits_b218
            rw [if_neg (by rw [nle (by omega) (by omega)]; omega), ginT (by omega) (by omega), if_pos rfl, gle, ncl (by omega), rN i c c1, bnd (bh B rN1)]
            dsimp only
            rw [if_neg (by rw [lq10, nle (by omega) (by omega)]; omega), ginT (by omega) (by omega), if_pos rfl, ncl (by omega), if_neg (fun y => q ((nI_eq (by omega) (by omega)).mp ((rN1 t d d1).symm.trans y))), if_pos (Or.inl rfl)]
      · have c10 : 10 ≤ c ∧ c < 70 := by omega
        rw [show ar c = 0 from if_neg (by omega)] at hmR'
        have hmS' : tk m' (S.drop (t + u.length)) = some 0 := by rw [hd']; exact hw
        have en : mX3_endOf A (nI b) (nI t) = some (A, nI (t + u.length)) := by
          have hf2 := fact3_2 (A := A) hb
          rw [hlen] at hf2
          unfold mX3_endOf mX3_endOf_b0
          rw [bnd hf2]
          dsimp only
          rw [one_nI]
          exact endOf_L hb rB lS cS gF t 1 u w hu (by omega) Tu (by unfold gF; omega) (by omega)
        have sc : nI c - 10 = nI (c - 10) := by rw [lq10, subn (by omega)]
        have hAc := hA (c - 10) (by omega)
        have cls : ∀ A' r, mX3_standsFor A (nI (c - 10)) (nI b) (nI t) (nI (t + u.length)) = some (A', r) → mX3_covers_L37 (f + 1) A (nI a) (nI b) (nI R.length) (nI t) (nI i) = if r = 0 then some (A', 0) else mX3_covers_L37 f A' (nI a) (nI b) (nI R.length) (nI (t + u.length)) (nI (i + 1)) := fun A' r hst => by
          show mX3_covers_b37 (mX3_covers_L37 f) A (nI a) (nI b) (nI R.length) (nI t) (nI i) = _
          unfold mX3_covers_b37 mX3_covers_b107
          rw [if_neg (by rw [nle (by omega) (by omega)]; omega), bnd (codeAt_k ha (by omega)), rA i c c1]
          dsimp only
          rw [gle, nI_1, if_neg (by rw [lq10, nlt (by omega) (by omega)]; omega), bnd en]
          dsimp only
          rw [sc, bnd hst]
          dsimp only
          by_cases z : r = 0
          · rw [if_pos z, if_pos z, if_pos (Or.inl rfl)]
          · rw [if_neg z, if_neg z, gle]
        have ref : ∀ (f' : Nat) (B : gM), rowIn B N R → rowIn B (N + 1) S → mX6_fits_L103 N (f' + 1) cp k n B S.length 71 (nI t) R.length (nI R.length) (nI i) = if B (N + 2) c = -1 then mX6_fits_b167 N cp k n (mX6_fits_L103 N f') (g_up B (N + 2) c (nI t)) S.length 71 (nI t) R.length (nI R.length) (nI i) (nI c) (nI (t + u.length)) else mX6_fits_b167 N cp k n (mX6_fits_L103 N f') B S.length 71 (nI t) R.length (nI R.length) (nI i) (nI c) (nI (t + u.length)) := fun f' B rN rN1 => by
          show mX6_fits_b103 N cp k n (mX6_fits_L103 N f') B S.length 71 (nI t) R.length (nI R.length) (nI i) = _
          unfold mX6_fits_b103
          rw [if_neg (by rw [nle (by omega) (by omega)]; omega), ginT (by omega) (by omega), if_pos rfl, gle, ncl (by omega), rN i c c1, bnd (bh B rN1)]
          dsimp only
          rw [if_pos (by rw [lq10, nle (by omega) (by omega)]; omega), ginT (n := c) (by omega) (by omega), if_pos rfl, ncl (by omega), if_pos rfl, gle]
        have r167 : ∀ (f' p : Nat) (B : gM), B (N + 2) c = nI p → p ≤ t → rowIn B (N + 1) S → mX6_fits_b167 N cp k n (mX6_fits_L103 N f') B S.length 71 (nI t) R.length (nI R.length) (nI i) (nI c) (nI (t + u.length)) = if cmpE S p t u.length 0 = true then mX6_fits_L103 N f' cp k n B S.length 71 (nI (t + u.length)) R.length (nI R.length) (nI (i + 1)) else some (B, (cp, k, n), 0) := fun f' p B hB hp rN1 => by
          have s6 := stands6_L (N := N) (cp := cp) (k := k) (n := n) (lr := R.length) (K := mX6_fits_L103 N f') (x8 := nI R.length) (x9 := nI i) rN1 lS cS hp u.length gF 0 (by omega) (by unfold gF; omega)
          rw [Nat.zero_add, nI0] at s6
          unfold mX6_fits_b167
          rw [ginT (by omega) (by omega), if_pos rfl, gle, ncl (by omega), hB, s6, nI_1]
        cases hgc : g (c - 10) with
        | none =>
          rw [hgc] at hAc
          have oA : ∀ x w, x ≠ 127 → g_up A 127 (c - 10) (nI t) x w = A x w := fun x w q => up_c q
          have st : mX3_standsFor A (nI (c - 10)) (nI b) (nI t) (nI (t + u.length)) = some (g_up A 127 (c - 10) (nI t), 1) := by
            unfold mX3_standsFor mX3_standsFor_b0
            rw [if_neg (nlt0 (by omega)), if_pos (by rw [lq60, nlt (by omega) (by omega)]; omega), ginT (by omega) (by omega), if_pos rfl, ncl (by omega), if_pos (show A 127 (c - 10) = -1 from hAc), if_pos rfl, gle, if_pos (Or.inr rfl)]
          obtain ⟨A', v, hv, p1, p2, p3⟩ := fits_L (cp := cp) (k := k) (n := n) ha hb hN lR lS cR cS f (i + 1) (t + u.length) m' (fun j => if j = c - 10 then some t else g j) (g_up A 127 (c - 10) (nI t)) (by omega) (by omega) hmR' hmS' (by omega) (fun j p h => by
            by_cases z : j = c - 10
            · rw [if_pos z] at h
              have := Option.some.inj h
              omega
            · rw [if_neg z] at h
              have := hg j p h
              omega) (fun j hj => by
            by_cases z : j = c - 10
            · rw [if_pos z, z, up_s]; rfl
            · rw [if_neg z, up_p z]; exact hA j hj) (fun i c hi => by rw [oA _ _ (by omega)]; exact rA i c hi) (fun i c hi => by rw [oA _ _ (by omega)]; exact rB i c hi) (by rw [oA _ _ (by omega)]; exact hlen)
          refine ⟨A', v, hv, ?_, fun x w q => (p2 x w q).trans (oA x w q), fun f' B hf' hB rN rN1 => ?_⟩
          · rw [cls _ _ st, if_neg (by decide), p1]
          · obtain ⟨f', rfl⟩ : ∃ g', f' = g' + 1 := ⟨f' - 1, by omega⟩
            have hBc := hB (c - 10) (by omega)
            rw [hgc, show 10 + (c - 10) = c by omega] at hBc
            have oB : ∀ x w, x ≠ N + 2 → g_up B (N + 2) c (nI t) x w = B x w := fun x w q => up_c q
            have rN1' : rowIn (g_up B (N + 2) c (nI t)) (N + 1) S := fun i c hi => by rw [oB _ _ (by omega)]; exact rN1 i c hi
            obtain ⟨B', z1, z2⟩ := p3 f' (g_up B (N + 2) c (nI t)) (by omega) (fun j hj => by
              by_cases z : j = c - 10
              · rw [if_pos z, show 10 + j = c by omega, up_s]; rfl
              · rw [if_neg z, up_p (by omega)]; exact hB j hj) (fun i c hi => by rw [oB _ _ (by omega)]; exact rN i c hi) rN1'
            refine ⟨B', ?_, fun x w q => (z2 x w q).trans (oB x w q)⟩
            rw [ref f' B rN rN1, if_pos (show B (N + 2) c = -1 from hBc), r167 f' t _ up_s (Nat.le_refl _) rN1', if_pos (cmpE_s _ _), z1]
        | some p =>
          rw [hgc] at hAc
          have hp := hg _ _ hgc
          have hAc' : A 127 (c - 10) = nI p := hAc
          have st : mX3_standsFor A (nI (c - 10)) (nI b) (nI t) (nI (t + u.length)) = some (A, if cmpE S p t u.length 0 = true then 1 else 0) := by
            have s5 := stands_L (A := A) hb rB lS cS hp u.length gF 0 (by omega) (by unfold gF; omega)
            rw [Nat.zero_add, nI0] at s5
            unfold mX3_standsFor mX3_standsFor_b0
            rw [if_neg (nlt0 (by omega)), if_pos (by rw [lq60, nlt (by omega) (by omega)]; omega), ginT (by omega) (by omega), if_pos rfl, ncl (by omega), if_neg (by rw [hAc', eqm1F (by omega)]; exact not_false), if_pos rfl, gle, hAc', s5]
          have fin : ∀ B : gM, (∀ j, j < 60 → B (N + 2) (10 + j) = enc (g j)) → B (N + 2) c = nI p := fun B hB => by
            have hBc := hB (c - 10) (by omega)
            rw [hgc, show 10 + (c - 10) = c by omega] at hBc
            exact hBc
          by_cases q : cmpE S p t u.length 0 = true
          · obtain ⟨A', v, hv, p1, p2, p3⟩ := fits_L (cp := cp) (k := k) (n := n) ha hb hN lR lS cR cS f (i + 1) (t + u.length) m' g A (by omega) (by omega) hmR' hmS' (by omega) (fun j p h => by have := hg j p h; omega) hA rA rB hlen
            refine ⟨A', v, hv, ?_, p2, fun f' B hf' hB rN rN1 => ?_⟩
            · rw [if_pos q] at st
              rw [cls _ _ st, if_neg (by decide), p1]
            · obtain ⟨f', rfl⟩ : ∃ g', f' = g' + 1 := ⟨f' - 1, by omega⟩
              obtain ⟨B', z1, z2⟩ := p3 f' B (by omega) hB rN rN1
              refine ⟨B', ?_, z2⟩
              rw [ref f' B rN rN1, if_neg (by rw [fin B hB, eqm1F (by omega)]; exact not_false), r167 f' p _ (fin B hB) hp rN1, if_pos q, z1]
          · refine ⟨A, 0, Or.inl rfl, ?_, fun _ _ _ => rfl, fun f' B hf' hB rN rN1 => ?_⟩
            · rw [if_neg q] at st
              rw [cls _ _ st, if_pos rfl]
            · obtain ⟨f', rfl⟩ : ∃ g', f' = g' + 1 := ⟨f' - 1, by omega⟩
              refine ⟨B, ?_, fun _ _ _ => rfl⟩
              rw [ref f' B rN rN1, if_neg (by rw [fin B hB, eqm1F (by omega)]; exact not_false), r167 f' p _ (fin B hB) hp rN1, if_neg q]
theorem init5_L {a b : Nat} {x3 : Int32} : ∀ (f i : Nat) (A : gM), i ≤ 60 → 60 - i < f → (∀ j, j < i → A 127 j = -1) → ∃ A', mX3_covers_L10 f A (nI a) (nI b) x3 (nI i) = mX3_covers_L37 gF A' (nI a) (nI b) x3 0 0 ∧ (∀ j, j < 60 → A' 127 j = -1) ∧ ∀ x w, x ≠ 127 → A' x w = A x w
  | 0, i, _, _, hf, _ => by omega
  | f + 1, i, A, hi, hf, h => by
    by_cases e : i = 60
    · subst e
      refine ⟨A, ?_, h, fun _ _ _ => rfl⟩
      show mX3_covers_b10 (mX3_covers_L10 f) A (nI a) (nI b) x3 (nI 60) = _
      unfold mX3_covers_b10
      rw [lq60, if_pos (by rw [nle (by omega) (by omega)]; omega)]
    · obtain ⟨A', q1, q2, q3⟩ := init5_L (a := a) (b := b) (x3 := x3) f (i + 1) (g_up A 127 i (-1)) (by omega) (by omega) (fun j hj => by
        by_cases z : j = i
        · rw [z, up_s]
        · rw [up_p z]; exact h j (by omega))
      refine ⟨A', ?_, q2, fun x w q => by rw [q3 x w q, up_c q]⟩
      show mX3_covers_b10 (mX3_covers_L10 f) A (nI a) (nI b) x3 (nI i) = _
      unfold mX3_covers_b10
      rw [if_neg (by rw [lq60, nle (by omega) (by omega)]; omega), ginT (by omega) (by omega), if_pos rfl, gle, gle, ncl (by omega), nI_1, q1]
theorem init6_L {N cp k n lr ls : Nat} : ∀ (f i : Nat) (A : gM), i ≤ 71 → 71 - i < f → (∀ j, j < i → A (N + 2) j = -1) → ∃ A', mX6_fits_L69 N f cp k n A lr ls 71 (nI i) = mX6_fits_L103 N gF cp k n A' ls 71 0 lr (nI lr) 0 ∧ (∀ j, j < 71 → A' (N + 2) j = -1) ∧ ∀ x w, x ≠ N + 2 → A' x w = A x w
  | 0, i, _, _, hf, _ => by omega
  | f + 1, i, A, hi, hf, h => by
    have e71 : Int32.ofNat 71 = nI 71 := ofN
    by_cases e : i = 71
    · subst e
      refine ⟨A, ?_, h, fun _ _ _ => rfl⟩
      show mX6_fits_b69 N cp k n (mX6_fits_L69 N f) A lr ls 71 (nI 71) = _
      unfold mX6_fits_b69
      rw [e71, if_pos (by rw [nle (by omega) (by omega)]; omega), gle, ofN]
    · obtain ⟨A', q1, q2, q3⟩ := init6_L (N := N) (cp := cp) (k := k) (n := n) (lr := lr) (ls := ls) f (i + 1) (g_up A (N + 2) i (-1)) (by omega) (by omega) (fun j hj => by
        by_cases z : j = i
        · rw [z, up_s]
        · rw [up_p z]; exact h j (by omega))
      refine ⟨A', ?_, q2, fun x w q => by rw [q3 x w q, up_c q]⟩
      show mX6_fits_b69 N cp k n (mX6_fits_L69 N f) A lr ls 71 (nI i) = _
      unfold mX6_fits_b69
      rw [e71, if_neg (by rw [nle (by omega) (by omega)]; omega), ginT (by omega) (by omega), if_pos rfl, gle, gle, ncl (by omega), nI_1, q1]
theorem sameA_127 {A' : gM} (o : ∀ x w, x ≠ 127 → A' x w = A x w) : sameA A A' := fun a x q => o a x (by omega)
end FI
section FK
variable {A : gM} {cp np s : Nat} {F : Nat → Nat → Int32} {sz dp : Nat → Nat} {res : Nat → (Nat × Nat) ⊕ Rw}
theorem k_fits (h : INV A cp np s F sz dp res) (x1 x2 : Int32) : LOK cp s (mL_fits A x1 x2) (bl (fun B => mX6_fits 193 cp B x1 x2)) := by
  have hn := h.2.1
  have u1 : g_up A 183 0 1 183 0 = 1 := up_s
  rcases inR_dec x1 np with i1 | i1
  rotate_left
  · refine LOK_nob h ?_ ?_
    · have t : mX5_fits A x1 x2 = some (A, .inr 0) := by
        unfold mX5_fits mX5_fits_b0
        rw [bnd (part_no h.1 hn i1)]
        all_goals rfl
      unfold mL_fits mL_fits_b0
      rw [bnd t]
      dsimp only [g_ct]
      simp only [↓reduceIte]
    · show mX6_fits 193 cp A x1 x2 = _
      unfold mX6_fits mX6_fits_b0 mX6_fits_b21 mX6_fits_b22
      rw [bnd (isPart_no h.2.2.1 hn i1)]
      dsimp only
      rw [if_pos rfl, gle, u1, if_neg (by decide), if_pos (Or.inl rfl)]
  rcases inR_dec x2 np with i2 | i2
  rotate_left
  · refine LOK_nob h ?_ ?_
    · have t : mX5_fits A x1 x2 = some (A, .inr 0) := by
        unfold mX5_fits mX5_fits_b0
        rw [bnd (part_ok h.1 hn i1)]
        dsimp only [g_tr]
        rw [bnd (part_no h.1 hn i2)]
        all_goals rfl
      unfold mL_fits mL_fits_b0
      rw [bnd t]
      dsimp only [g_ct]
      simp only [↓reduceIte]
    · show mX6_fits 193 cp A x1 x2 = _
      unfold mX6_fits mX6_fits_b0 mX6_fits_b21 mX6_fits_b22
      rw [bnd (isPart_ok h.2.2.1 hn i1)]
      dsimp only
      rw [if_neg (by decide), bnd (isPart_no h.2.2.1 hn i2)]
      dsimp only
      rw [if_pos rfl, gle, u1, if_neg (by decide), if_pos (Or.inl rfl)]
  obtain ⟨a, ha, rfl⟩ := id i1
  obtain ⟨b, hb, rfl⟩ := id i2
  obtain ⟨a1, a2, a3⟩ := inv_in h ha
  obtain ⟨b1, b2, b3⟩ := inv_in h hb
  have la := rowOf_len a2
  have lb := rowOf_len b2
  have out : ∀ A' v, (v = 0 ∨ v = 1) → mX5_fits A (nI a) (nI b) = some (A', .inl v) → mL_fits A (nI a) (nI b) = some (g_up A' 192 0 v, 0) := fun A' v hv t => by
    unfold mL_fits mL_fits_b0 mL_fits_b16
    rw [bnd t]
    dsimp only [g_ct]
    rcases hv with rfl | rfl
    · rw [if_pos rfl, if_pos (by decide), gle]; rfl
    · rw [if_neg (by decide), if_pos (by decide), gle]; rfl
  have rows : ∀ C s1, INV (g_up C 183 0 0) cp np s1 F sz dp res → ∃ A2 cp' k n, mX6_fits 193 cp C (nI a) (nI b) = mX6_fits_b45 193 cp' k n A2 (rowOf (res a)).length (rowOf (res b)).length ∧ costB cp cp' k n 4 242 ∧ offA 193 (g_up C 183 0 0) A2 ∧ rO A2 cp' ∧ rowIn A2 193 (rowOf (res a)) ∧ rowIn A2 (193 + 1) (rowOf (res b)) := fun C s1 hC => by
    obtain ⟨A1, c1, k1, n1, e1, e2, e3, e4, e5⟩ := row_ok (N := 193) (Nat.le_refl _) (by omega) (INV_RI hC ha)
    obtain ⟨A2, c2, k2, n2, f1, f2, f3, f4, f5⟩ := row_ok (N := 193 + 1) (by omega) (by omega) (RI_at hC e3 e2.1 e4 hb)
    refine ⟨A2, c2, 0 + k1 + k2, 0 + n1 + n2, ?_, by rw [Nat.zero_add, Nat.zero_add]; exact costB_le (costB_tr e2 f2) (by omega) (by omega), offA_tr e3 (offA_le (by omega) f3), f4, fun i c hi => by rw [f3 _ _ (by omega)]; exact e5 i c hi, f5⟩
    unfold mX6_fits mX6_fits_b0 mX6_fits_b22 mX6_fits_b39
    rw [bnd (isPart_ok (up0 hC) hn i1)]
    dsimp only
    rw [if_neg (by decide), bnd (isPart_ok (up0 hC) hn i2)]
    dsimp only
    rw [if_neg (by decide), gle, if_pos up_s, bnd e1]
    dsimp only
    rw [bnd f1]
  rcases both0 h ha hb with ⟨R, S, ea, eb, bt⟩ | ⟨hz, bt⟩
  · obtain ⟨lR, pR, cR, oR⟩ := ok_codes a2 ea
    obtain ⟨lS, pS, cS, oS⟩ := ok_codes b2 eb
    obtain ⟨tR, -, cR2⟩ := a2.2 R ea
    obtain ⟨tS, -, cS2⟩ := b2.2 S eb
    rw [oR, oS] at rows
    have rA := kept_row a1
    have rB := kept_row b1
    have fa := fact3_2 (A := A) a3
    rw [kept_len a1, oR] at fa
    rw [oR] at rA
    rw [oS] at rB
    have fb := kept_len b1
    rw [oS] at fb
    obtain ⟨A0, i1', i2', i3'⟩ := init5_L (a := a) (b := b) (x3 := nI R.length) gF 0 A (by omega) (by unfold gF; omega) (fun j hj => absurd hj (Nat.not_lt_zero j))
    have key := fun cp' k n => fits_L (cp := cp') (k := k) (n := n) (N := 193) a3 b3 (Nat.le_refl _) lR lS cR2 cS gF 0 0 1 (fun _ => none) A0 (by omega) (by unfold gF; omega) tR tS (by omega) (fun j p hj => by cases hj) (fun j hj => i2' j hj) (fun i c hi => by rw [i3' _ _ (by omega)]; exact rA i c hi) (fun i c hi => by rw [i3' _ _ (by omega)]; exact rB i c hi) (by rw [i3' _ _ (by omega)]; exact fb)
    obtain ⟨A', v, hv, p1, p2, -⟩ := key 0 0 0
    have oA : ∀ x w, x ≠ 127 → A' x w = A x w := fun x w q => (p2 x w q).trans (i3' x w q)
    have cv : mX3_covers A (nI a) (nI b) = some (A', v) := by
      unfold mX3_covers mX3_covers_b0
      rw [bnd fa]
      dsimp only
      rw [← nI0, i1', ← nI0, p1]
    have hC5 : mX5_fits A (nI a) (nI b) = some (A', .inl v) := by
      unfold mX5_fits mX5_fits_b0 mX5_fits_b35 mX5_fits_b36
      rw [bnd (part_ok h.1 hn i1)]
      dsimp only [g_tr]
      rw [bnd (part_ok h.1 hn i2)]
      dsimp only [g_tr]
      rw [bnd bt]
      dsimp only
      rw [if_neg (by decide), bnd cv]
      dsimp only
      rcases hv with rfl | rfl
      · rw [if_pos rfl, if_pos (Or.inl rfl)]
      · rw [if_neg (by decide), if_pos (Or.inr rfl)]
    refine LOK_askb (v := v) hv (A1 := A') (s1 := s) h (out _ _ hv hC5) (sameA_127 oA) (stI_off h.2.2.2.2.2.1 (oA _ _ (by omega)) (funext fun w => oA _ w (by omega))) (by omega) (fun C hC => ?_)
    obtain ⟨A2, cp', k, n, r1, r2, r3, r4, r5, r6⟩ := rows C s hC
    obtain ⟨A'', v'', -, p1'', -, p3⟩ := key cp' (k + 1) (n + 71)
    have ev : v'' = v := by
      have := p1''.symm.trans p1
      exact (Prod.mk.inj (Option.some.inj this)).2
    rw [ev] at p3
    obtain ⟨A3, j1, j2, j3⟩ := init6_L (N := 193) (cp := cp') (k := k + 1) (n := n + 71) (lr := R.length) (ls := S.length) gF 0 (g_row A2 (193 + 2) (fun _ => 0)) (by omega) (by unfold gF; omega) (fun j hj => absurd hj (Nat.not_lt_zero j))
    have o3 : ∀ x w, x ≠ 193 + 2 → A3 x w = A2 x w := fun x w q => by rw [j3 x w q, g_row_n q]
    obtain ⟨B', z1, z2⟩ := p3 gF A3 (by unfold gF; omega) (fun j hj => j2 _ (by omega)) (fun i c hi => by rw [o3 _ _ (by omega)]; exact r5 i c hi) (fun i c hi => by rw [o3 _ _ (by omega)]; exact r6 i c hi)
    refine ⟨B', cp', k + 1, n + 71, r1.trans ?_, ⟨r2.1, r2.2.1, by have := r2.2.2.1; omega, by have := r2.2.2.2; omega⟩, fun x w q => by rw [z2 x w (by omega), o3 x w (by omega)]; exact r3 x w q, fun i hi => by rw [z2 _ _ (by omega), o3 _ _ (by omega)]; exact r4 i hi⟩
    rw [nI0] at j1 z1
    have c71 : (71 : Int32).toNatClampNeg = 71 := by decide
    unfold mX6_fits_b45 mX6_fits_b64
    rw [ofN, ofN, if_neg (by rw [eq0F (by omega) (by omega)]; exact not_false), if_neg (by rw [eq0F (by omega) (by omega)]; exact not_false), if_pos (by decide), c71, j1, z1]
  · have hC5 : mX5_fits A (nI a) (nI b) = some (A, .inl 0) := by
      unfold mX5_fits mX5_fits_b0 mX5_fits_b35 mX5_fits_b36
      rw [bnd (part_ok h.1 hn i1)]
      dsimp only [g_tr]
      rw [bnd (part_ok h.1 hn i2)]
      dsimp only [g_tr]
      rw [bnd bt]
      dsimp only
      rw [if_pos rfl, if_pos (Or.inl rfl)]
    refine LOK_askb (v := 0) (Or.inl rfl) (A1 := A) (s1 := s) h (out _ _ (Or.inl rfl) hC5) (fun a x _ => rfl) h.2.2.2.2.2.1 (by omega) (fun C hC => ?_)
    obtain ⟨A2, cp', k, n, r1, r2, r3, r4, r5, r6⟩ := rows C s hC
    refine ⟨A2, cp', k, n, r1.trans ?_, costB_le r2 (by omega) (by omega), r3, r4⟩
    unfold mX6_fits_b45 mX6_fits_b58
    rw [ofN, ofN]
    by_cases q : (rowOf (res a)).length = 0
    · rw [if_pos (by rw [q]; exact nI0), if_pos (Or.inl rfl)]
    · have q2 : (rowOf (res b)).length = 0 := by
        rcases hz with ⟨f, e⟩ | ⟨f, e⟩
        · exact absurd (by rw [e]; rfl) q
        · rw [e]; rfl
      rw [if_neg (by rw [eq0F (by omega) (by omega)]; exact not_false), if_pos (by rw [q2]; exact nI0), if_pos (Or.inl rfl)]
end FK
