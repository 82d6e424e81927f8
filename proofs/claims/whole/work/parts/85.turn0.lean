/-! ROWS BUILT ANEW ON BOTH SIDES -/
theorem num_back0 : ∀ (r : Rw) (s : List Nat), (seatsOf (fun _ => false) s r).length ≤ 60 → (num (fun _ => false) s r).map (back (seatsOf (fun _ => false) s r)) = r
  | [], s, _ => rfl
  | c :: r, s, hl => by
    rw [num_cons]
    rw [seats_cons] at hl ⊢
    by_cases h : c < 10 ∨ (false : Bool) = true
    · have q : c < 10 := by simpa using h
      rw [if_pos h] at hl ⊢
      rw [if_pos h, List.map_cons, num_back0 r s hl]
      congr 1
      unfold back
      rw [if_pos q]
    · rw [if_neg h] at hl ⊢
      rw [if_neg h]
      by_cases q : c ∈ s
      · rw [if_pos q] at hl ⊢
        rw [if_pos q, List.map_cons, num_back0 r s hl]
        congr 1
        obtain ⟨t, ht⟩ := seats_pre (keep := fun _ => false) r s
        have hi := List.idxOf_lt_length_of_mem q
        rw [ht, List.length_append] at hl
        unfold back
        rw [if_neg (by omega), if_pos (by omega), ht, show 10 + s.idxOf c - 10 = s.idxOf c by omega, getD_l hi, getD_ix q]
      · rw [if_neg q] at hl ⊢
        rw [if_neg q, List.map_cons, num_back0 r (s ++ [c]) hl]
        congr 1
        obtain ⟨t, ht⟩ := seats_pre (keep := fun _ => false) r (s ++ [c])
        rw [ht, List.length_append, List.length_append, List.length_singleton] at hl
        unfold back
        rw [if_neg (by omega), if_pos (by omega), ht, show 10 + s.length - 10 = s.length by omega, getD_l (by rw [List.length_append, List.length_singleton]; omega)]
        simp
theorem num_codes0 : ∀ (r : Rw) (s : List Nat), ∀ z ∈ num (fun _ => false) s r, z < 10 ∨ (10 ≤ z ∧ z - 10 < (seatsOf (fun _ => false) s r).length)
  | [], s, z, hz => by cases hz
  | c :: r, s, z, hz => by
    rw [num_cons] at hz
    rw [seats_cons]
    by_cases h : c < 10 ∨ (false : Bool) = true
    · rw [if_pos h] at hz ⊢
      rcases List.mem_cons.mp hz with rfl | hz
      · exact Or.inl (by simpa using h)
      · exact num_codes0 r s z hz
    · rw [if_neg h] at hz ⊢
      by_cases q : c ∈ s
      · rw [if_pos q] at hz ⊢
        rcases List.mem_cons.mp hz with rfl | hz
        · obtain ⟨t, ht⟩ := seats_pre (keep := fun _ => false) r s
          have hi := List.idxOf_lt_length_of_mem q
          rw [ht, List.length_append]
          exact Or.inr ⟨by omega, by omega⟩
        · exact num_codes0 r s z hz
      · rw [if_neg q] at hz ⊢
        rcases List.mem_cons.mp hz with rfl | hz
        · obtain ⟨t, ht⟩ := seats_pre (keep := fun _ => false) r (s ++ [c])
          rw [ht, List.length_append, List.length_append, List.length_singleton]
          exact Or.inr ⟨by omega, by omega⟩
        · exact num_codes0 r (s ++ [c]) z hz
/-- a row of the class and one of the reference with the same numbered form -/
theorem ext_row {uc ur uc' ur' : Nat} {Ar Ar' : gM} {ρ : Nat → Nat} {V : Nat → Prop} {g : Nat → Nat} {T : Nat → Rw} {r Y : Rw} (h : RLV uc ur Ar ρ V) (h1 : uc ≤ uc') (h2 : ur ≤ ur') (h5 : ∀ m, m < ur → Ar' 188 m = Ar 188 m) (hr : ∀ c ∈ r, c < 4 ∨ (10 ≤ c ∧ c < 70)) (hl : r.length ≤ 60) (hg : ∀ c ∈ r, 10 ≤ c → c < 100 → uc ≤ g (c - 10) ∧ g (c - 10) < uc') (hgi : ∀ c ∈ r, ∀ d ∈ r, 10 ≤ c → c < 100 → 10 ≤ d → d < 100 → g (c - 10) = g (d - 10) → c = d)
    (hY : num0 Y = r) (hYc : ∀ x ∈ Y, x < 10 ∨ (10 + ur ≤ x ∧ x < 10 + ur' ∧ Ar' 188 (x - 10) = 0)) : ∃ ρ' V', RLV uc' ur' Ar' ρ' V' ∧ (∀ x, V x → V' x ∧ ρ' x = ρ x) ∧ rn ρ' (exR g T r) = Y ∧ ∀ x ∈ exR g T r, lowV V' x := by
  obtain ⟨sF, hsF⟩ : ∃ sF, sF = seatsOf (fun _ => false) [] Y := ⟨_, rfl⟩
  have hYl : Y.length = r.length := by rw [← hY, num0_len]
  have hsl : sF.length ≤ 60 := by rw [hsF]; have := seats_le (keep := fun _ => false) Y []; rw [List.length_nil] at this; omega
  have hback : r.map (back sF) = Y := by rw [← hY, hsF]; exact num_back0 Y [] (by rw [← hsF]; exact hsl)
  have hcod : ∀ c ∈ r, c < 10 ∨ (10 ≤ c ∧ c - 10 < sF.length) := by rw [← hY, hsF]; exact num_codes0 Y []
  have nd : sF.Nodup := by rw [hsF]; exact seats_nd _ _ List.nodup_nil
  have sIn : ∀ i, i < sF.length → 10 + ur ≤ sF.getD i 0 ∧ sF.getD i 0 < 10 + ur' ∧ Ar' 188 (sF.getD i 0 - 10) = 0 := fun i hi => by
    have hm := getD_mem hi
    have hm2 := hm
    rw [hsF] at hm
    rcases seats_in _ _ _ hm with q | ⟨q1, q2⟩
    · cases q
    · rw [← hsF] at q1 q2
      rcases hYc _ q1 with z | z
      · exact absurd (Or.inl z) q2
      · exact z
  have frp : ∀ c ∈ r, 10 ≤ c → c < 100 → c - 10 < sF.length := fun c hc h1 _ => by
    rcases hcod c hc with q | q <;> omega
  obtain ⟨ρ', hρ1, hρ2⟩ : ∃ ρ' : Nat → Nat, (∀ c ∈ r, 10 ≤ c → c < 100 → ρ' (100 + g (c - 10)) = sF.getD (c - 10) 0) ∧ ∀ x, (∀ c ∈ r, 10 ≤ c → c < 100 → x ≠ 100 + g (c - 10)) → ρ' x = ρ x := by
    classical
    refine ⟨fun x => if q : ∃ c, c ∈ r ∧ 10 ≤ c ∧ c < 100 ∧ x = 100 + g (c - 10) then sF.getD (Classical.choose q - 10) 0 else ρ x, fun c hc h1 h2 => ?_, fun x hx => ?_⟩
    · have q : ∃ d, d ∈ r ∧ 10 ≤ d ∧ d < 100 ∧ 100 + g (c - 10) = 100 + g (d - 10) := ⟨c, hc, h1, h2, rfl⟩
      show (if q : ∃ d, d ∈ r ∧ 10 ≤ d ∧ d < 100 ∧ 100 + g (c - 10) = 100 + g (d - 10) then sF.getD (Classical.choose q - 10) 0 else ρ (100 + g (c - 10))) = _
      rw [dif_pos q]
      have sp := Classical.choose_spec q
      have := hgi c hc _ sp.1 h1 h2 sp.2.1 sp.2.2.1 (by omega)
      rw [← this]
    · exact dif_neg fun ⟨c, z1, z2, z3, z4⟩ => hx c z1 z2 z3 z4
  have old : ∀ x, x < 100 + uc → ρ' x = ρ x := fun x hx => hρ2 x fun c hc h1 h2 e => by have := (hg c hc h1 h2).1; omega
  obtain ⟨V', hV'⟩ : ∃ V' : Nat → Prop, ∀ x, V' x ↔ V x ∨ ∃ c ∈ r, 10 ≤ c ∧ c < 100 ∧ x = 100 + g (c - 10) := ⟨fun x => V x ∨ ∃ c ∈ r, 10 ≤ c ∧ c < 100 ∧ x = 100 + g (c - 10), fun _ => Iff.rfl⟩
  have img : ∀ x, lowV V' x → (lowV V x ∧ ρ' x = ρ x ∧ ρ x < 10 + ur) ∨ ∃ c ∈ r, 10 ≤ c ∧ c < 100 ∧ x = 100 + g (c - 10) ∧ ρ' x = sF.getD (c - 10) 0 := by
    intro x hx
    rcases hx with q | q
    · exact Or.inl ⟨Or.inl q, old x (by omega), by rw [h.1.low x q]; omega⟩
    · rcases (hV' x).mp q with q | ⟨c, hc, h1, h2, e⟩
      · exact Or.inl ⟨Or.inr q, old x (by have := h.2 x q; omega), (h.2 x q).2.2.2.1⟩
      · exact Or.inr ⟨c, hc, h1, h2, e, by rw [e]; exact hρ1 c hc h1 h2⟩
  refine ⟨ρ', V', ⟨⟨fun c hc => by rw [old c (by omega)]; exact h.1.low c hc, fun x hx => ?_, fun x y hx hy e => ?_⟩, fun x hx => ?_⟩, fun x hx => ⟨(hV' x).mpr (Or.inl hx), old x (h.2 x hx).2.1⟩, ?_, fun x hx => ?_⟩
  · by_cases q : ∃ c ∈ r, 10 ≤ c ∧ c < 100 ∧ x = 100 + g (c - 10)
    · obtain ⟨c, hc, h1, h2, e⟩ := q
      rw [e, hρ1 c hc h1 h2]
      have := (sIn _ (frp c hc h1 h2)).1; omega
    · rw [hρ2 x fun c hc h1 h2 e => q ⟨c, hc, h1, h2, e⟩]; exact h.1.high x hx
  · rcases img x hx with ⟨x1, x2, x3⟩ | ⟨c, hc, c1, c2, x4, x5⟩
    · rcases img y hy with ⟨y1, y2, y3⟩ | ⟨d, hd, d1, d2, y4, y5⟩
      · rw [x2, y2] at e; exact h.1.inj x y x1 y1 e
      · rw [x2, y5] at e; have := (sIn _ (frp d hd d1 d2)).1; omega
    · rcases img y hy with ⟨y1, y2, y3⟩ | ⟨d, hd, d1, d2, y4, y5⟩
      · rw [x5, y2] at e; have := (sIn _ (frp c hc c1 c2)).1; omega
      · rw [x5, y5] at e
        have := nd_inj nd (frp c hc c1 c2) (frp d hd d1 d2) e
        rw [x4, y4, this]
  · rcases (hV' x).mp hx with q | ⟨c, hc, c1, c2, e⟩
    · have := h.2 x q
      rw [old x (by omega)]
      exact ⟨this.1, by omega, this.2.2.1, by omega, by rw [h5 _ (by omega)]; exact this.2.2.2.2⟩
    · have z := sIn _ (frp c hc c1 c2)
      have y := hg c hc c1 c2
      rw [e, hρ1 c hc c1 c2]
      exact ⟨by omega, by omega, by omega, by omega, z.2.2⟩
  · rw [exR_sub, rn_sub, ← hback]
    have e2 : ∀ r : Rw, r.map (back sF) = subE (fun c => [back sF c]) r := by
      intro r
      induction r with
      | nil => rfl
      | cons c r ih => rw [List.map_cons, ih, subE_cons]; rfl
    rw [e2 r]
    refine subE_cg fun c hc => ?_
    have hb := hr c hc
    unfold back
    rcases hb with q | q
    · rw [if_pos (by omega), if_pos (by omega), rn_one, old c (by omega), h.1.low c (by omega)]
    · rw [if_neg (by omega), if_pos (by omega), if_neg (by omega), if_pos (by omega), rn_one, hρ1 c hc q.1 (by omega)]
  · rw [exR_sub] at hx
    obtain ⟨c, hc, hx⟩ := subE_mem.mp hx
    have hb := hr c hc
    rcases hb with q | q
    · rw [if_pos (by omega), List.mem_singleton] at hx; exact Or.inl (by omega)
    · rw [if_neg (by omega), if_pos (by omega), List.mem_singleton] at hx
      exact Or.inr ((hV' x).mpr (Or.inr ⟨c, hc, q.1, by omega, hx⟩)) |> fun z => z
/-- the class takes a kept row and builds it -/
theorem brow_L {p : Nat} {R : Rw} (hp : p < 40) (hl : R.length ≤ 60) : ∀ (f i : Nat) (A : gM), rowIn A (45 + p) R → i ≤ R.length → R.length - i < f → (∀ j c, j < i → R[j]? = some c → A 182 j = nI c) → ∃ A', mX0_buildRow_L10 f A (nI p) (nI R.length) (nI i) = (mX4_build A' 182 (nI R.length)).bind (fun q1 => some (q1.1, q1.2)) ∧ rowIn A' 182 R ∧ ∀ a x, a ≠ 182 → A' a x = A a x
  | 0, i, A, _, _, hf, _ => by omega
  | f + 1, i, A, hr, hi, hf, hd => by
    show ∃ A', mX0_buildRow_b10 (mX0_buildRow_L10 f) A (nI p) (nI R.length) (nI i) = _ ∧ _
    unfold mX0_buildRow_b10 mX0_buildRow_b43
    by_cases e : i = R.length
    · subst e
      exact ⟨A, by rw [if_pos (by rw [nle (by omega) (by omega)]; omega)], fun j c hj => hd j c (List.getElem?_eq_some_iff.mp hj).1 hj, fun _ _ _ => rfl⟩
    · obtain ⟨c, hg, -, -⟩ := drop_at (R := R) (k := i) (by omega)
      have hca := codeAt_k (A := A) (p := p) (i := i) hp (by omega)
      obtain ⟨A', e1, e2, e3⟩ := brow_L hp hl f (i + 1) (g_up A 182 i (A (45 + p) i)) (fun j c hj => by rw [up_c (by omega)]; exact hr j c hj) (by omega) (by omega) (fun j c hj hjc => by
        by_cases z : j = i
        · subst z; rw [up_s]; exact hr j c hjc
        · rw [up_p z]; exact hd j c (by omega) hjc)
      refine ⟨A', ?_, e2, fun a x q => by rw [e3 a x q, up_c q]⟩
      rw [if_neg (by rw [nle (by omega) (by omega)]; omega), lq60, if_neg (by rw [nle (by omega) (by omega)]; omega), bnd hca]
      dsimp only
      rw [ginT (by omega) (by omega), if_pos rfl, gle, gle, ncl (by omega), nI_1, e1]
theorem buildRow_ok {A : gM} {u : Nat} {T : Nat → Rw} {ch : Nat → Nat} {p : Nat} {R : Rw} (h : sT A u T ch) (hp : p < 40) (hk : kept A p 0 (-1) R) (hR : Ty R) (hl : R.length ≤ 60) (hc : ∀ c ∈ R, c < 4 ∨ (10 ≤ c ∧ c < 70)) (hu : u + 60 ≤ 2600) :
    ∃ A' u' T' ch' r g, mX0_buildRow A (nI p) = some (A', nI r) ∧ sT A' u' T' ch' ∧ u ≤ u' ∧ u' ≤ u + 60 ∧ r < u' ∧ T' r = exR g T R ∧ (∀ n, n < u → T' n = T n) ∧
      (∀ c ∈ R, 10 ≤ c → c < 100 → u ≤ g (c - 10) ∧ g (c - 10) < u') ∧ (∀ c ∈ R, ∀ d ∈ R, 10 ≤ c → c < 100 → 10 ≤ d → d < 100 → g (c - 10) = g (d - 10) → c = d) ∧ ∀ a x, (a < 129 ∨ a = 133 ∨ (137 < a ∧ a ≠ 182) ∨ (a = 129 ∧ x ≠ 9)) → A' a x = A a x := by
  obtain ⟨A1, e1, e2, e3⟩ := brow_L hp hl gF 0 A hk.2.2.2.2.2 (by omega) (by unfold gF; omega) (fun j c hj => by omega)
  have s1 : sameS A A1 := ⟨e3 _ _ (by omega), funext fun x => e3 _ x (by omega), funext fun x => e3 _ x (by omega), funext fun x => e3 _ x (by omega)⟩
  obtain ⟨A', u', T', ch', r, g, b1, b2, b3, b4, b5, b6, b7, b8, b9, b10, b11⟩ := build_ok (sT_same s1 h) (x1 := 182) (Or.inl rfl) hR hl (fun c hc' => by have := hc c hc'; omega) e2 (by omega)
  refine ⟨A', u', T', ch', r, g, ?_, b2, b3, by omega, b5, b6, b7, fun c hc' q1 q2 => ⟨(b10 c hc' q1 q2).1, (b10 c hc' q1 q2).2.1⟩, b11, fun a x q => by rw [b9 a x (by omega) (by omega) (by omega) (by omega) (by omega) (by omega), e3 a x (by omega)]⟩
  have f2 := fact3_2 (A := A) hp
  rw [hk.2.2.1] at f2
  rw [nI0] at e1
  unfold mX0_buildRow mX0_buildRow_b0
  rw [bnd f2]
  dsimp only
  rw [e1, bnd b1]
