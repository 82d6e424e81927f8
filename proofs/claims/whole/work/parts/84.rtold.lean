/-! WHAT THE REFERENCE TELLS OF A PART -/
def told (res : (Nat × Nat) ⊕ Rw) (w : Nat) : Int32 := match res with
  | .inl (f, q) => if w = 0 then nI f else if w = 1 then nI q else 0
  | .inr r => if w = 0 then 0 else if w = 1 then -1 else if w = 2 then nI r.length else if w = 3 then nI (vrs r) else nI (dep r)
def rowOf (res : (Nat × Nat) ⊕ Rw) : Rw := match res with
  | .inl _ => []
  | .inr r => r
def costB (cp cp' k n K M : Nat) : Prop := okc cp' ∧ cp ≤ cp' ∧ 100 * k + cp ≤ cp' + 100 * K ∧ n + 10 * cp ≤ 10 * cp' + M
theorem costB_of {cp cp' k n : Nat} (h : cost cp cp' k n) : costB cp cp' k n 0 0 := ⟨h.1, h.2.1, by have := h.2.2.1; omega, by have := h.2.2.2; omega⟩
theorem costB_tr {a b c k n K M k' n' K' M' : Nat} (h1 : costB a b k n K M) (h2 : costB b c k' n' K' M') : costB a c (k + k') (n + n') (K + K') (M + M') := by
  obtain ⟨-, a1, a2, a3⟩ := h1
  obtain ⟨b0, b1, b2, b3⟩ := h2
  exact ⟨b0, by omega, by omega, by omega⟩
theorem costB_le {a b k n K M K' M' : Nat} (h : costB a b k n K M) (h1 : K ≤ K') (h2 : M ≤ M') : costB a b k n K' M' := ⟨h.1, h.2.1, by have := h.2.2.1; omega, by have := h.2.2.2; omega⟩
/-- frames of the reference's asks that make new arrays from cell N on -/
def offA (N : Nat) (A A' : gM) : Prop := ∀ a x, (a < 183 ∨ a = 184 ∨ (192 ≤ a ∧ a < N) ∨ (a = 183 ∧ x ≠ 3 ∧ x ≠ 9 ∧ x ≠ 12 ∧ x ≠ 13)) → A' a x = A a x
theorem offA_R {N : Nat} {A B : gM} (h : offR 0 A B) : offA N A B := fun a x q => h a x (by omega)
theorem offA_tr {N : Nat} {A B C : gM} (h1 : offA N A B) (h2 : offA N B C) : offA N A C := fun a x q => (h2 a x q).trans (h1 a x q)
theorem offA_le {N N' : Nat} {A B : gM} (hl : N ≤ N') (h : offA N' A B) : offA N A B := fun a x q => h a x (by omega)
def RI (A : gM) (cp : Nat) (F : Nat → Nat → Int32) (p : Nat) (res : (Nat × Nat) ⊕ Rw) : Prop := okc cp ∧ rO A cp ∧ PTr A (p + 1) F ∧ Rs F p res ∧ resOK res
theorem RI_off {N : Nat} {A B : gM} {cp cp' p : Nat} {F : Nat → Nat → Int32} {res : (Nat × Nat) ⊕ Rw} (o : offA N A B) (hc : okc cp') (hO : rO B cp') (h : RI A cp F p res) : RI B cp' F p res := ⟨hc, hO, fun j hj w hw => by rw [o _ _ (by omega)]; exact h.2.2.1 j hj w hw, h.2.2.2.1, h.2.2.2.2⟩
section RT
variable {F : Nat → Nat → Int32} {p N cp : Nat} {res : (Nat × Nat) ⊕ Rw} {A : gM}
theorem typeOf_ok (hp : p ≤ 40) (h : RI A cp F p res) : ∃ A' cp' k n v, mX6_typeOf N cp A (nI p) = some (A', (cp', k, n), v) ∧ cost cp cp' k n ∧ offR 0 A A' ∧ rO A' cp' ∧
    ((∃ f q, res = .inl (f, q) ∧ v = -1 ∧ A' 183 12 = nI f ∧ A' 183 13 = nI q) ∨ (∃ r ur Tr chr rr, res = .inr r ∧ v = nI rr ∧ rr ≤ 8000 ∧ rW A' cp' 0 ur Tr chr ∧ rr < ur ∧ num0 (Tr rr) = r ∧ (Tr rr).length ≤ 60 ∧ A' 183 12 = 0 ∧ A' 183 13 = -1 ∧ (prs A' 0 ur).length ≤ 1169)) := by
  obtain ⟨h1, h2, h3, h4, h5⟩ := h
  obtain ⟨A4, hA4⟩ : ∃ A4, A4 = g_up (g_up (g_up (g_up A 183 3 0) 183 9 0) 183 12 0) 183 13 (-1) := ⟨_, rfl⟩
  have o4 : ∀ a x, ¬ (a = 183 ∧ (x = 3 ∨ x = 9 ∨ x = 12 ∨ x = 13)) → A4 a x = A a x := fun a x q => by rw [hA4, up_get, if_neg (by omega), up_get, if_neg (by omega), up_get, if_neg (by omega), up_get, if_neg (by omega)]
  have w4 : rW A4 cp 0 0 (fun _ => []) (fun _ => 0) := ⟨⟨by rw [hA4, up_p (by omega), up_p (by omega), up_p (by omega), up_s]; exact nI0.symm, h1, by omega, fun n hn => absurd hn (Nat.not_lt_zero n), fun i hi => by rw [o4 _ _ (by omega)]; exact h2 i hi, fun n hn => absurd hn (Nat.not_lt_zero n)⟩, fun n hn => absurd hn.2 (Nat.not_lt_zero n), fun n hn => absurd hn (Nat.not_lt_zero n), Nat.le_refl 0⟩
  have e9 : A4 183 9 = nI 0 := by rw [hA4, up_p (by omega), up_p (by omega), up_s]; exact nI0.symm
  have e12 : A4 183 12 = 0 := by rw [hA4, up_p (by omega), up_s]
  have e13 : A4 183 13 = -1 := by rw [hA4, up_s]
  obtain ⟨A', cp', k, n, c, oR, hO, hd⟩ := h4 N 45 cp A4 0 (fun _ => []) (fun _ => 0) (by omega) w4 e9 (fun j hj w hw => by rw [o4 _ _ (by omega)]; exact h3 j hj w hw) (by omega)
  have oR' : offR 0 A A' := fun a x q => by rw [oR a x q, o4 a x (by omega)]
  have start : ∀ v, mX6_found N 45 cp A4 (nI p) = some (A', (cp', k, n), v) → mX6_typeOf N cp A (nI p) = some (A', (cp', k, n), v) := by
    intro v hv
    unfold mX6_typeOf mX6_typeOf_b0 mX6_typeOf_b25
    rw [gle, gle, gle, gle, ← hA4, bnd hv, Nat.zero_add, Nat.zero_add]
  rcases hd with ⟨f, q, e, hf, g1, g2⟩ | ⟨r, ur', Tr', chr', rr, e, hf, w', -, hu3, -, hrr, hnum, hlen, -, -, -, g12, g13, -, hpr⟩
  · exact ⟨A', cp', k, n, -1, start _ hf, c, oR', hO, Or.inl ⟨f, q, e, rfl, g1, g2⟩⟩
  · exact ⟨A', cp', k, n, nI rr, start _ hf, c, oR', hO, Or.inr ⟨r, ur', Tr', chr', rr, e, rfl, by omega, w', hrr, hnum, hlen, by rw [g12]; exact e12, by rw [g13]; exact e13, by omega⟩⟩
theorem fill_L {k n L : Nat} {t : Int32} (hN : 193 ≤ N) : ∀ (f i : Nat) (A : gM), i ≤ 61 → 61 - i < f → ∃ A', mX6_row_L32 N f cp k n A t L 61 (nI i) = (mX6_write cp 62 A' t N L 0 (N + 1) 61).bind (fun q2 => some (q2.1, (cp, k, n), L)) ∧ (∀ j, i ≤ j → j < 61 → A' (N + 1) j = -1) ∧ (∀ j, j < i → A' (N + 1) j = A (N + 1) j) ∧ ∀ a x, a ≠ N + 1 → A' a x = A a x
  | 0, i, A, _, hf => by omega
  | f + 1, i, A, hi, hf => by
    show ∃ A', mX6_row_b32 N cp k n (mX6_row_L32 N f) A t L 61 (nI i) = _ ∧ _
    unfold mX6_row_b32
    by_cases e : i = 61
    · subst e
      exact ⟨A, by rw [if_pos (by decide +kernel)], fun j h1 h2 => by omega, fun _ _ => rfl, fun _ _ _ => rfl⟩
    · obtain ⟨A', h1, h2, h3, h4⟩ := fill_L (k := k) (n := n) (L := L) (t := t) hN f (i + 1) (g_up A (N + 1) i (-1)) (by omega) (by omega)
      refine ⟨A', ?_, fun j q1 q2 => ?_, fun j q => by rw [h3 j (by omega), up_p (by omega)], fun a x q => by rw [h4 a x q, up_c q]⟩
      · rw [lq60, if_neg (by rw [nlt (by omega) (by omega)]; omega), ginT (by omega) (by omega), if_pos rfl, gle, gle, ncl (by omega), nI_1, h1]
      · by_cases e2 : j = i
        · subst e2; rw [h3 j (by omega), up_s]
        · exact h2 j (by omega) q2
theorem row_ok (hN : 193 ≤ N) (hp : p ≤ 40) (h : RI A cp F p res) : ∃ A' cp' k n, mX6_row N cp A (nI p) = some (A', (cp', k, n), (rowOf res).length) ∧ costB cp cp' k n 2 121 ∧ offA N A A' ∧ rO A' cp' ∧ rowIn A' N (rowOf res) := by
  obtain ⟨A1, cp1, k1, n1, v, e1, c1, o1, hO1, hd⟩ := typeOf_ok (N := N) hp h
  have hcb := costB_of c1
  rcases hd with ⟨f, q, e, rfl, -, -⟩ | ⟨r, ur, Tr, chr, rr, e, rfl, hrb, w1, hrr, hnum, hlen, -, -, hpr⟩
  · subst e
    refine ⟨g_row A1 N (fun _ => 0), cp1, 0 + k1 + 1, 0 + n1 + 0, ?_, ⟨hcb.1, hcb.2.1, by have := hcb.2.2.1; omega, by have := hcb.2.2.2; omega⟩, fun a x q => by rw [g_row_n (by omega), o1 a x (by omega)], fun i hi => by rw [g_row_n (by omega)]; exact hO1 i hi, fun i c hi => by simp [rowOf] at hi⟩
    unfold mX6_row mX6_row_b0 mX6_row_b5 mX6_row_b14
    rw [bnd e1]
    dsimp only
    rw [if_pos rfl, if_pos (by decide), cl0]; rfl
  · subst e
    have hcd := codes_ok w1.1 w1.2.1 (fun n hn => hn.2) 1250 rr 0 ⟨Nat.zero_le _, hrr⟩ abv_0 (by omega)
    rw [show min 61 (Tr rr).length = (Tr rr).length by omega] at hcd
    obtain ⟨A2, hA2⟩ : ∃ A2, A2 = g_row (g_row A1 N (fun _ => 0)) (N + 1) (fun _ => 0) := ⟨_, rfl⟩
    have o2 : offNN N A1 A2 := fun a x q1 q2 => by rw [hA2, g_row_n q2, g_row_n q1]
    obtain ⟨A3, f1, f2, -, f4⟩ := fill_L (cp := cp1) (k := 0 + k1 + 1 + 1) (n := 0 + n1 + (Tr rr).length + 61) (L := (Tr rr).length) (t := nI rr) hN gF 0 A2 (by omega) (by unfold gF; omega)
    have o3 : offNN N A1 A3 := fun a x q1 q2 => by rw [f4 a x q2, o2 a x q1 q2]
    obtain ⟨P, S, r1, r2, r3, r4⟩ := reach_ok (rS_NN hN o3 w1.1) rr hrr
    obtain ⟨A4, g1, g2, -, -, g5⟩ := write6_ok (L := (Tr rr).length) hN hlen r4 62 A3 rr 0 0 [] (rS_NN hN o3 w1.1) r2 r1 abv_0 (by omega) ⟨by simp, fun i c hi => by simp at hi, fun i _ hi => f2 i (by omega) hi⟩ (by simp) (by omega)
    have o4 : offNN N A1 A4 := fun a x q1 q2 => by rw [g2 a x q1 q2, o3 a x q1 q2]
    have hlr : (rowOf (.inr r)).length = (Tr rr).length := by show r.length = _; rw [← hnum, num0_len]
    refine ⟨A4, cp1, 0 + k1 + 1 + 1, 0 + n1 + (Tr rr).length + 61, ?_, ⟨hcb.1, hcb.2.1, by have := hcb.2.2.1; omega, by have := hcb.2.2.2; omega⟩, fun a x q => by rw [o4 a x (by omega) (by omega), o1 a x (by omega)], fun i hi => by rw [o4 _ _ (by omega) (by omega)]; exact hO1 i hi, fun i c hi => ?_⟩
    · unfold mX6_row mX6_row_b0 mX6_row_b5
      rw [bnd e1]
      dsimp only
      rw [if_neg (by rw [eqm1F (by omega)]; exact not_false), bnd hcd]
      dsimp only
      rw [if_pos ⟨nlt0 (by omega), by rw [ncl (by omega)]; omega⟩, ncl (by omega)]
      unfold mX6_row_b22 mX6_row_b27
      rw [if_pos (by decide), show (61 : Int32).toNatClampNeg = 61 by decide, ← hA2]
      rw [nI0] at f1
      rw [f1]
      rw [nI0] at g1
      rw [bnd g1, hlr]
    · have := g5 i c (by
        have hr : rowOf (.inr r) = num0 (Tr rr) := hnum.symm
        rw [hr] at hi; exact hi)
      rw [Nat.zero_add] at this; exact this
theorem max_L {L : Nat} {R : Rw} (hR : rowIn A N R) (hc : ∀ c ∈ R, c < 4 ∨ (10 ≤ c ∧ c < 70)) (hl : R.length ≤ 60) {k n : Nat} : ∀ (f i v : Nat), i ≤ R.length → R.length - i < f → v ≤ 100 → mX6_typeTold_L77 N f cp k n A (nI (9 + v)) R.length (nI R.length) (nI i) = some (A, (cp, k, n), nI ((R.drop i).foldl (fun m c => max m (c - 9)) v))
  | 0, i, v, _, hf, _ => by omega
  | f + 1, i, v, hi, hf, hv => by
    show mX6_typeTold_b77 N cp k n (mX6_typeTold_L77 N f) A (nI (9 + v)) R.length (nI R.length) (nI i) = _
    unfold mX6_typeTold_b77
    by_cases e : i = R.length
    · rw [e, if_pos (by rw [nle (by omega) (by omega)]; omega), List.drop_length]
      by_cases hv0 : 1 ≤ v
      · rw [lq10, subn (by omega), nI_1, show 9 + v - 10 + 1 = v by omega]; rfl
      · have : v = 0 := by omega
        subst this
        rw [show (nI (9 + 0) - 10) + 1 = nI 0 by decide +kernel]; rfl
    · obtain ⟨c, hg, hd, hcR⟩ := drop_at (R := R) (k := i) (by omega)
      have hb := hc c hcR
      have hA := hR i c hg
      rw [if_neg (by rw [nle (by omega) (by omega)]; omega), ginT (by omega) (by omega), if_pos rfl, ncl (by omega), hA, gle, gle, gle, nI_1, hd]
      have e2 : (if nI (9 + v) < nI c then nI c else nI (9 + v)) = nI (9 + max v (c - 9)) := by
        rw [max_n (by omega) (by omega), show max (9 + v) c = 9 + max v (c - 9) by omega]
      rw [e2]
      exact max_L (L := L) hR hc hl f (i + 1) _ (by omega) (by omega) (by omega)
theorem typeTold_ok2 {w : Nat} (hN : 193 ≤ N) (hp : p ≤ 40) (hw : w < 5) (h : RI A cp F p res) : ∃ A' cp' k n, mX6_typeTold N cp A (nI p) (nI w) = some (A', (cp', k, n), told res w) ∧ costB cp cp' k n (if w = 3 then 2 else 0) (if w = 3 then 121 else 0) ∧ offA N A A' ∧ rO A' cp' := by
  obtain ⟨A1, cp1, k1, n1, v, e1, c1, o1, hO1, hd⟩ := typeOf_ok (N := N) hp h
  have hcb := costB_le (costB_of c1) (Nat.zero_le (if w = 3 then 2 else 0)) (Nat.zero_le (if w = 3 then 121 else 0))
  have low : ∀ v', mX6_typeTold N cp A (nI p) (nI w) = some (A1, (cp1, 0 + k1, 0 + n1), v') → v' = told res w → ∃ A' cp' k n, mX6_typeTold N cp A (nI p) (nI w) = some (A', (cp', k, n), told res w) ∧ costB cp cp' k n (if w = 3 then 2 else 0) (if w = 3 then 121 else 0) ∧ offA N A A' ∧ rO A' cp' := fun v' e ev => ⟨A1, cp1, 0 + k1, 0 + n1, by rw [← ev]; exact e, by rw [Nat.zero_add, Nat.zero_add]; exact hcb, offA_R o1, hO1⟩
  have start : mX6_typeTold N cp A (nI p) (nI w) = mX6_typeTold_b5 N cp1 (0 + k1) (0 + n1) A1 (nI p) (nI w) v := by
    unfold mX6_typeTold mX6_typeTold_b0
    rw [bnd e1]
  by_cases hw2 : w < 2
  · have e2 : mX6_typeTold N cp A (nI p) (nI w) = some (A1, (cp1, 0 + k1, 0 + n1), if w = 0 then A1 183 12 else A1 183 13) := by
      rw [start]
      unfold mX6_typeTold_b5 mX6_typeTold_b26
      rw [lq2, if_neg (by rw [nle (by omega) (by omega)]; omega)]
      by_cases w0 : w = 0
      · rw [if_pos (by rw [w0]; exact nI0), if_pos w0]
      · rw [if_neg (by rw [eq0F (by omega) (by omega)]; exact not_false), if_neg w0]
    refine low _ e2 ?_
    rcases hd with ⟨f, q, e, -, g1, g2⟩ | ⟨r, ur, Tr, chr, rr, e, -, -, -, -, -, -, g1, g2, -⟩
    · subst e
      unfold told
      dsimp only
      by_cases w0 : w = 0
      · rw [if_pos w0, if_pos w0]; exact g1
      · rw [if_neg w0, if_neg w0, if_pos (by omega)]; exact g2
    · subst e
      unfold told
      dsimp only
      by_cases w0 : w = 0
      · rw [if_pos w0, if_pos w0]; exact g1
      · rw [if_neg w0, if_neg w0, if_pos (by omega)]; exact g2
  · rcases hd with ⟨f, q, e, rfl, g1, g2⟩ | ⟨r, ur, Tr, chr, rr, e, rfl, hrb, w1, hrr, hnum, hlen, g1, g2, hpr⟩
    · refine low 0 ?_ ?_
      · rw [start]
        unfold mX6_typeTold_b5
        rw [lq2, if_pos (by rw [nle (by omega) (by omega)]; omega), if_pos rfl]
      · subst e
        unfold told
        dsimp only
        rw [if_neg (by omega), if_neg (by omega)]
    · by_cases w3 : w = 3
      · subst w3
        obtain ⟨A2, cp2, k2, n2, f1, f2, f3, f4, f5⟩ := row_ok hN hp (RI_off (offA_R (N := N) o1) c1.1 hO1 h)
        have hr := h.2.2.2.2.2 r e
        have hro : rowOf res = r := by rw [e]; rfl
        rw [hro] at f1 f5
        have hmx := max_L (cp := cp2) (L := 0) (k := 0 + k1 + k2) (n := 0 + n1 + n2) f5 hr.2.2 hr.2.1 gF 0 0 (by omega) (by have := hr.2.1; unfold gF; omega) (by omega)
        rw [List.drop_zero] at hmx
        refine ⟨A2, cp2, 0 + k1 + k2, 0 + n1 + n2, ?_, by rw [Nat.zero_add, Nat.zero_add]; exact costB_le (costB_tr (costB_of c1) f2) (by simp) (by simp), offA_tr (offA_R o1) f3, f4⟩
        rw [start]
        unfold mX6_typeTold_b5 mX6_typeTold_b67
        rw [lq2, if_pos (by rw [nle (by omega) (by omega)]; omega), if_neg (by rw [eqm1F (by omega)]; exact not_false), lq3, if_pos rfl, bnd f1, gle]
        dsimp only
        rw [ofN, lq9, ← nI0, hmx, e]; rfl
      · have base : mX6_typeTold N cp A (nI p) (nI w) = (if nI w = 2 then (mX6_codes cp1 1250 A1 (nI rr)).bind fun q7 => mX6_typeTold_b57 N cp1 (0 + k1) (0 + n1) q7.1 q7.2 else (mX6_deep cp1 62 A1 (nI rr)).bind fun q6 => mX6_typeTold_b57 N cp1 (0 + k1) (0 + n1) q6.1 q6.2) := by
          rw [start]
          unfold mX6_typeTold_b5
          rw [if_pos (by rw [lq2, nle (by omega) (by omega)]; omega), if_neg (by rw [eqm1F (by omega)]; exact not_false), if_neg (by rw [lq3, neq (by omega) (by omega)]; exact w3)]
        by_cases w2 : w = 2
        · have hcd := codes_ok w1.1 w1.2.1 (fun n hn => hn.2) 1250 rr 0 ⟨Nat.zero_le _, hrr⟩ abv_0 (by omega)
          rw [show min 61 (Tr rr).length = (Tr rr).length by omega] at hcd
          refine low (nI (Tr rr).length) ?_ ?_
          · rw [base, if_pos (by rw [w2, lq2]), bnd hcd]; rfl
          · subst e
            unfold told
            dsimp only
            rw [if_neg (by omega), if_neg (by omega), if_pos w2, ← hnum, num0_len]
        · obtain ⟨P, S, r1, r2, r3, r4⟩ := reach_ok w1.1 rr hrr
          have hdp := deep_ok w1.1 r2 r4 62 rr 0 r1 abv_0 (by omega) hlen
          refine low (nI (dep (Tr rr))) ?_ ?_
          · rw [base, if_neg (by rw [lq2, neq (by omega) (by omega)]; exact w2), bnd hdp]; rfl
          · subst e
            unfold told
            dsimp only
            rw [if_neg (by omega), if_neg (by omega), if_neg w2, if_neg w3, ← hnum, dep_num0]
theorem typeTold_ok {w : Nat} (hN : 193 ≤ N) (hp : p ≤ 40) (hw : w < 5) (h : RI A cp F p res) : ∃ A' cp' k n, mX6_typeTold N cp A (nI p) (nI w) = some (A', (cp', k, n), told res w) ∧ costB cp cp' k n 2 121 ∧ offA N A A' ∧ rO A' cp' := by
  obtain ⟨A', cp', k, n, e1, e2, e3, e4⟩ := typeTold_ok2 hN hp hw h
  exact ⟨A', cp', k, n, e1, costB_le e2 (by split <;> omega) (by split <;> omega), e3, e4⟩
theorem length_ok (hp : p ≤ 40) (h : RI A cp F p res) : ∃ A' cp' k n, mX6_length N cp A (nI p) = some (A', (cp', k, n), nI (rowOf res).length) ∧ costB cp cp' k n 0 0 ∧ offR 0 A A' ∧ rO A' cp' := by
  obtain ⟨A1, cp1, k1, n1, v, e1, c1, o1, hO1, hd⟩ := typeOf_ok (N := N) hp h
  refine ⟨A1, cp1, 0 + k1, 0 + n1, ?_, by rw [Nat.zero_add, Nat.zero_add]; exact costB_of c1, o1, hO1⟩
  unfold mX6_length mX6_length_b0 mX6_length_b5 mX6_length_b20
  rw [bnd e1]
  dsimp only
  rcases hd with ⟨f, q, e, rfl, -, -⟩ | ⟨r, ur, Tr, chr, rr, e, rfl, hrb, w1, hrr, hnum, hlen, -, -, hpr⟩
  · subst e; rw [if_pos rfl]; show _ = some (_, _, nI 0); rw [nI0]
  · have hcd := codes_ok w1.1 w1.2.1 (fun n hn => hn.2) 1250 rr 0 ⟨Nat.zero_le _, hrr⟩ abv_0 (by omega)
    rw [show min 61 (Tr rr).length = (Tr rr).length by omega] at hcd
    subst e
    rw [if_neg (by rw [eqm1F (by omega)]; exact not_false), bnd hcd]
    show _ = some (_, _, nI r.length)
    rw [← hnum, num0_len]
end RT
