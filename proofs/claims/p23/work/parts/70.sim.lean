/-! CLASS AND REFERENCE SIDE BY SIDE -/
def lowV (V : Nat → Prop) (c : Nat) : Prop := c < 10 ∨ V c
def RLV (uc ur : Nat) (Ar : gM) (ρ : Nat → Nat) (V : Nat → Prop) : Prop := Ren ρ (lowV V) ∧ ∀ x, V x → 100 ≤ x ∧ x < 100 + uc ∧ 10 ≤ ρ x ∧ ρ x < 10 + ur ∧ Ar 188 (ρ x - 10) = 0
def em (ρ : Nat → Nat) (Tc : Nat → Rw) (o : Nat → Nat) (c : Nat) : Rw := if c < 10 then [c] else if c < 100 then [10 + o (c - 10)] else rn ρ (Tc (c - 100))
/-- what a name around stands for, on both sides -/
def entry (ze : Nat) (Ac Ar : gM) (uc ur b : Nat) (Tc Tr : Nat → Rw) (ρ : Nat → Nat) (W : Nat → Prop) (k : Nat) (R : Rw) (o : Nat → Nat) (t : Nat) : Prop :=
  (∃ l, l ≤ 9 ∧ Ac 139 k = nI l ∧ Ar 190 (k + ze) = nI l) ∧ Ac 181 k = nI R.length ∧ rowIn Ac (141 + k) R ∧ Ar 191 (k + ze) = nI t ∧ (b ≤ t ∧ t < ur) ∧ Ty R ∧ R.length ≤ 60 ∧ codesB uc R ∧ Tr t = subE (em ρ Tc o) R ∧
    (∀ c ∈ R, 100 ≤ c → ∀ x ∈ Tc (c - 100), lowV W x) ∧ (∀ c ∈ R, 10 ≤ c → c < 100 → o (c - 10) < ur ∧ ¬ Ar 188 (o (c - 10)) = 0) ∧ ∀ c ∈ R, ∀ d ∈ R, 10 ≤ c → c < 100 → 10 ≤ d → d < 100 → o (c - 10) = o (d - 10) → c = d
/-- one name more in the reference, ahead of all others, that no part asks for -/
def EX (ze zl zt : Nat) (Ar : gM) (b ur : Nat) (Tr : Nat → Rw) (ρ : Nat → Nat) (V : Nat → Prop) : Prop := ze ≤ 1 ∧ ∀ j, j < ze → zl ≤ 9 ∧ Ar 190 j = nI zl ∧ Ar 191 j = nI zt ∧ (b ≤ zt ∧ zt < ur) ∧ Tr zt = [10 + zt] ∧ ∀ x, V x → ρ x ≠ 10 + zt
def Sim (Ac : gM) (uc : Nat) (Tc : Nat → Rw) (sc : Nat) (Ar : gM) (cp b ur : Nat) (Tr : Nat → Rw) (ρ : Nat → Nat) (V W : Nat → Prop) (ar : Nat) (env : Nat → Rw) (om : Nat → Nat → Nat) (tn : Nat → Nat) (ze zl zt : Nat) : Prop :=
  (∃ ch, sT Ac uc Tc ch) ∧ stI Ac sc ∧ (∃ ch, rW Ar cp b ur Tr ch) ∧ RLV uc ur Ar ρ V ∧ (∀ x, W x → V x) ∧ (Ac 138 3 = nI ar ∧ Ar 183 9 = nI (ar + ze) ∧ ar ≤ 40) ∧ (∀ k, k < ar → entry ze Ac Ar uc ur b Tc Tr ρ W k (env k) (om k) (tn k)) ∧ EX ze zl zt Ar b ur Tr ρ V
/-- from one state of both to a later one: what is new, and what has been given to variables -/
def Adv (uc : Nat) (Tc : Nat → Rw) (ur : Nat) (Tr : Nat → Rw) (ρ : Nat → Nat) (V W : Nat → Prop) (Ar : gM) (uc' : Nat) (Tc' : Nat → Rw) (ur' : Nat) (Tr' : Nat → Rw) (ρ' : Nat → Nat) (V' : Nat → Prop) (Ar' : gM) : Prop :=
  uc ≤ uc' ∧ ur ≤ ur' ∧ (∀ x, V x → V' x ∧ ρ' x = ρ x) ∧ (∀ x, V' x → ¬ V x → 100 + uc ≤ x ∧ 10 + ur ≤ ρ' x) ∧ (∀ m, m < ur → Ar' 188 m = Ar 188 m) ∧
    ∃ sC sR : Nat → Rw, (∀ c, c < 10 → sC c = [c] ∧ sR c = [c]) ∧ (∀ m, m < uc → Tc' m = subE sC (Tc m)) ∧ (∀ m, m < ur → Tr' m = subE sR (Tr m)) ∧ (∀ v, V v → rn ρ' (sC v) = sR (ρ v) ∧ ∀ x ∈ sC v, lowV V' x) ∧ (∀ v, V v → ¬ W v → sC v = [v]) ∧ (∀ v, W v → ∀ x ∈ sC v, lowV (fun x => V' x ∧ (V x → W x)) x) ∧ (∀ m, m < ur → ¬ Ar 188 m = 0 → sR (10 + m) = [10 + m]) ∧ ∀ x, x < 10 + ur → (∀ v, W v → ρ v ≠ x) → sR x = [x]
theorem rn_one {ρ : Nat → Nat} {c : Nat} : rn ρ [c] = [ρ c] := rfl
theorem rn_cg {ρ ρ' : Nat → Nat} {r : Rw} (h : ∀ x ∈ r, ρ x = ρ' x) : rn ρ r = rn ρ' r := List.map_congr_left h
/-- giving and renaming -/
theorem sub_rn {ρ ρ' : Nat → Nat} {V : Nat → Prop} {sC sR : Nat → Rw} (hl : ∀ c, c < 10 → ρ c = c) (hl' : ∀ c, c < 10 → ρ' c = c) (h0 : ∀ c, c < 10 → sC c = [c] ∧ sR c = [c]) (h1 : ∀ v, V v → rn ρ' (sC v) = sR (ρ v)) : ∀ {r : Rw}, (∀ x ∈ r, lowV V x) → subE sR (rn ρ r) = rn ρ' (subE sC r)
  | [], _ => rfl
  | c :: r, h => by
    rw [rn_cons, subE_cons, subE_cons, rn_app, sub_rn hl hl' h0 h1 fun x hx => h x (List.mem_cons_of_mem _ hx)]
    rcases h c List.mem_cons_self with q | q
    · rw [hl c q, (h0 c q).1, (h0 c q).2, rn_one, hl' c q]
    · rw [h1 c q]
theorem Adv_rfl {uc : Nat} {Tc : Nat → Rw} {ur : Nat} {Tr : Nat → Rw} {ρ : Nat → Nat} {V W : Nat → Prop} {Ar Ar' : gM} {uc' : Nat} {Tc' : Nat → Rw} {ur' : Nat} {Tr' : Nat → Rw} (h1 : uc ≤ uc') (h2 : ur ≤ ur') (h3 : ∀ m, m < uc → Tc' m = Tc m) (h4 : ∀ m, m < ur → Tr' m = Tr m) (h5 : ∀ m, m < ur → Ar' 188 m = Ar 188 m) (hW : ∀ x, W x → V x) : Adv uc Tc ur Tr ρ V W Ar uc' Tc' ur' Tr' ρ V Ar' :=
  ⟨h1, h2, fun x hx => ⟨hx, rfl⟩, fun x hx hn => absurd hx hn, h5, fun c => [c], fun c => [c], fun c _ => ⟨rfl, rfl⟩, fun m hm => by rw [h3 m hm, subE_id fun _ _ => rfl], fun m hm => by rw [h4 m hm, subE_id fun _ _ => rfl], fun v hv => ⟨rfl, fun x hx => by rw [List.mem_singleton] at hx; subst hx; exact Or.inr hv⟩, fun _ _ _ => rfl, fun v hv x hx => by rw [List.mem_singleton] at hx; subst hx; exact Or.inr ⟨hW _ hv, fun _ => hv⟩, fun _ _ _ => rfl, fun _ _ _ => rfl⟩
/-- a new variable on both sides -/
theorem Adv_var {uc : Nat} {Tc : Nat → Rw} {ur : Nat} {Tr : Nat → Rw} {ρ : Nat → Nat} {V W : Nat → Prop} {Ar Ar' : gM} {uc' : Nat} {Tc' : Nat → Rw} {ur' : Nat} {Tr' : Nat → Rw} {x y : Nat} (h1 : uc ≤ uc') (h2 : ur ≤ ur') (h3 : ∀ m, m < uc → Tc' m = Tc m) (h4 : ∀ m, m < ur → Tr' m = Tr m) (h5 : ∀ m, m < ur → Ar' 188 m = Ar 188 m) (hW : ∀ x, W x → V x) (hV : ∀ x, V x → x < 100 + uc) (hx : 100 + uc ≤ x) (hy : 10 + ur ≤ y) : Adv uc Tc ur Tr ρ V W Ar uc' Tc' ur' Tr' (at1 ρ x y) (fun z => V z ∨ z = x) Ar' := by
  have o : ∀ z, V z → at1 ρ x y z = ρ z := fun z hz => at1_n (by have := hV z hz; omega)
  refine ⟨h1, h2, fun z hz => ⟨Or.inl hz, o z hz⟩, fun z hz hn => ?_, h5, fun c => [c], fun c => [c], fun c _ => ⟨rfl, rfl⟩, fun m hm => by rw [h3 m hm, subE_id fun _ _ => rfl], fun m hm => by rw [h4 m hm, subE_id fun _ _ => rfl], fun v hv => ⟨by rw [rn_one, o v hv], fun z hz => by rw [List.mem_singleton] at hz; subst hz; exact Or.inr (Or.inl hv)⟩, fun _ _ _ => rfl, fun v hv z hz => by rw [List.mem_singleton] at hz; subst hz; exact Or.inr ⟨Or.inl (hW _ hv), fun _ => hv⟩, fun _ _ _ => rfl, fun _ _ _ => rfl⟩
  rcases hz with hz | rfl
  · exact absurd hz hn
  · rw [at1_s]; exact ⟨hx, hy⟩
theorem RLV_var {uc ur : Nat} {Ar Ar' : gM} {ρ : Nat → Nat} {V : Nat → Prop} {uc' ur' x y : Nat} (h : RLV uc ur Ar ρ V) (h1 : uc ≤ uc') (h2 : ur ≤ ur') (h5 : ∀ m, m < ur → Ar' 188 m = Ar 188 m) (hx : 100 + uc ≤ x) (hx2 : x < 100 + uc') (hy : 10 + ur ≤ y) (hy2 : y < 10 + ur') (h8 : Ar' 188 (y - 10) = 0) : RLV uc' ur' Ar' (at1 ρ x y) (fun z => V z ∨ z = x) := by
  have o : ∀ z, V z → at1 ρ x y z = ρ z := fun z hz => at1_n (by have := (h.2 z hz); omega)
  refine ⟨⟨fun c hc => by rw [at1_n (by omega)]; exact h.1.low c hc, fun c hc => ?_, fun z w hz hw e => ?_⟩, fun z hz => ?_⟩
  · by_cases e : c = x
    · subst e; rw [at1_s]; omega
    · rw [at1_n e]; exact h.1.high c hc
  · have img : ∀ z, lowV V z → at1 ρ x y z = ρ z ∧ ρ z < 10 + ur := fun z hz => by
      rcases hz with q | q
      · rw [at1_n (by omega), h.1.low z q]; exact ⟨rfl, by omega⟩
      · exact ⟨o z q, (h.2 z q).2.2.2.1⟩
    have lv : ∀ z, lowV (fun z => V z ∨ z = x) z → lowV V z ∨ z = x := fun z hz => by
      rcases hz with q | q | q
      · exact Or.inl (Or.inl q)
      · exact Or.inl (Or.inr q)
      · exact Or.inr q
    rcases lv z hz with hz' | hz'
    · rcases lv w hw with hw' | hw'
      · rw [(img z hz').1, (img w hw').1] at e; exact h.1.inj z w hz' hw' e
      · rw [(img z hz').1, hw', at1_s] at e; have := (img z hz').2; omega
    · rcases lv w hw with hw' | hw'
      · rw [(img w hw').1, hz', at1_s] at e; have := (img w hw').2; omega
      · rw [hz', hw']
  · rcases hz with hz | rfl
    · have := h.2 z hz
      rw [o z hz]
      exact ⟨this.1, by omega, this.2.2.1, by omega, by rw [h5 _ (by omega)]; exact this.2.2.2.2⟩
    · rw [at1_s]; exact ⟨by omega, hx2, by omega, hy2, h8⟩
theorem RLV_ext {uc ur : Nat} {Ar Ar' : gM} {ρ : Nat → Nat} {V : Nat → Prop} {uc' ur' : Nat} (h : RLV uc ur Ar ρ V) (h1 : uc ≤ uc') (h2 : ur ≤ ur') (h5 : ∀ m, m < ur → Ar' 188 m = Ar 188 m) : RLV uc' ur' Ar' ρ V :=
  ⟨h.1, fun z hz => by have := h.2 z hz; exact ⟨this.1, by omega, this.2.2.1, by omega, by rw [h5 _ (by omega)]; exact this.2.2.2.2⟩⟩
theorem Adv_tr {uc : Nat} {Tc : Nat → Rw} {ur : Nat} {Tr : Nat → Rw} {ρ : Nat → Nat} {V W : Nat → Prop} {Ar : gM} {uc1 : Nat} {Tc1 : Nat → Rw} {ur1 : Nat} {Tr1 : Nat → Rw} {ρ1 : Nat → Nat} {V1 : Nat → Prop} {Ar1 : gM} {uc2 : Nat} {Tc2 : Nat → Rw} {ur2 : Nat} {Tr2 : Nat → Rw} {ρ2 : Nat → Nat} {V2 : Nat → Prop} {Ar2 : gM} {W1 : Nat → Prop}
    (hW1 : ∀ x, W1 x ↔ V1 x ∧ (V x → W x)) (hl1 : ∀ c, c < 10 → ρ1 c = c) (hl2 : ∀ c, c < 10 → ρ2 c = c) (h : Adv uc Tc ur Tr ρ V W Ar uc1 Tc1 ur1 Tr1 ρ1 V1 Ar1) (h' : Adv uc1 Tc1 ur1 Tr1 ρ1 V1 W1 Ar1 uc2 Tc2 ur2 Tr2 ρ2 V2 Ar2) : Adv uc Tc ur Tr ρ V W Ar uc2 Tc2 ur2 Tr2 ρ2 V2 Ar2 := by
  obtain ⟨a1, a2, a3, a4, a5, sC, sR, a6, a7, a8, a9, a10, a11, a12, a13⟩ := h
  obtain ⟨b1, b2, b3, b4, b5, tC, tR, b6, b7, b8, b9, b10, b11, b12, b13⟩ := h'
  refine ⟨by omega, by omega, fun x hx => ⟨(b3 x (a3 x hx).1).1, by rw [(b3 x (a3 x hx).1).2, (a3 x hx).2]⟩, fun x hx hn => ?_, fun m hm => by rw [b5 m (by omega), a5 m hm], fun c => subE tC (sC c), fun c => subE tR (sR c), fun c hc => by show subE tC (sC c) = [c] ∧ subE tR (sR c) = [c]; rw [(a6 c hc).1, (a6 c hc).2, subE_one, subE_one]; exact b6 c hc, fun m hm => by rw [b7 m (by omega), a7 m hm, subE_comp], fun m hm => by rw [b8 m (by omega), a8 m hm, subE_comp], fun v hv => ⟨?_, fun x hx => ?_⟩, fun v hv hn => ?_, fun v hv x hx => ?_, fun m hm ho => ?_, fun x hx hn => ?_⟩
  · by_cases q : V1 x
    · have := a4 x q hn
      rw [(b3 x q).2]; exact this
    · have := b4 x hx q; omega
  · show rn ρ2 (subE tC (sC v)) = subE tR (sR (ρ v))
    rw [← (a9 v hv).1]
    exact (sub_rn hl1 hl2 b6 (fun v hv => (b9 v hv).1) (a9 v hv).2).symm
  · obtain ⟨c, hc, hx⟩ := subE_mem.mp hx
    rcases (a9 v hv).2 c hc with q | q
    · rw [(b6 c q).1, List.mem_singleton] at hx; subst hx; exact Or.inl q
    · exact (b9 c q).2 x hx
  · show subE tC (sC v) = [v]
    rw [a10 v hv hn, subE_one]
    exact b10 v (a3 v hv).1 fun z => hn (((hW1 v).mp z).2 hv)
  · obtain ⟨c, hc, hx⟩ := subE_mem.mp hx
    rcases a11 v hv c hc with q | q
    · rw [(b6 c q).1, List.mem_singleton] at hx; subst hx; exact Or.inl q
    · rcases b11 c ((hW1 c).mpr q) x hx with p | p
      · exact Or.inl p
      · exact Or.inr ⟨p.1, fun z => ((hW1 x).mp (p.2 (a3 x z).1)).2 z⟩
  · show subE tR (sR (10 + m)) = [10 + m]
    rw [a12 m hm ho, subE_one]
    exact b12 m (by omega) (by rw [a5 m hm]; exact ho)
  · show subE tR (sR x) = [x]
    rw [a13 x hx hn, subE_one]
    refine b13 x (by omega) fun v hv e => ?_
    obtain ⟨q1, q2⟩ := (hW1 v).mp hv
    by_cases z : V v
    · rw [(a3 v z).2] at e; exact hn v (q2 z) e
    · have := (a4 v q1 z).2; omega
/-- a row, on both sides, behind an advance -/
theorem Adv_row {uc : Nat} {Tc : Nat → Rw} {ur : Nat} {Tr : Nat → Rw} {ρ : Nat → Nat} {V W : Nat → Prop} {Ar : gM} {uc' : Nat} {Tc' : Nat → Rw} {ur' : Nat} {Tr' : Nat → Rw} {ρ' : Nat → Nat} {V' : Nat → Prop} {Ar' : gM} (hl : ∀ c, c < 10 → ρ c = c) (hl' : ∀ c, c < 10 → ρ' c = c) (h : Adv uc Tc ur Tr ρ V W Ar uc' Tc' ur' Tr' ρ' V' Ar') {n m : Nat} (hn : n < uc) (hm : m < ur) (hV : ∀ x ∈ Tc n, lowV V x) (e : rn ρ (Tc n) = Tr m) :
    rn ρ' (Tc' n) = Tr' m ∧ (∀ x ∈ Tc' n, lowV V' x) ∧ ((∀ x ∈ Tc n, lowV W x) → ∀ x ∈ Tc' n, lowV (fun x => V' x ∧ (V x → W x)) x) := by
  obtain ⟨a1, a2, a3, a4, a5, sC, sR, a6, a7, a8, a9, a10, a11, a12, a13⟩ := h
  refine ⟨?_, fun x hx => ?_, fun hW x hx => ?_⟩
  · rw [a7 n hn, a8 m hm, ← e]
    exact (sub_rn hl hl' a6 (fun v hv => (a9 v hv).1) hV).symm
  · rw [a7 n hn] at hx
    obtain ⟨c, hc, hx⟩ := subE_mem.mp hx
    rcases hV c hc with q | q
    · rw [(a6 c q).1, List.mem_singleton] at hx; subst hx; exact Or.inl q
    · exact (a9 c q).2 x hx
  · rw [a7 n hn] at hx
    obtain ⟨c, hc, hx⟩ := subE_mem.mp hx
    rcases hW c hc with q | q
    · rw [(a6 c q).1, List.mem_singleton] at hx; subst hx; exact Or.inl q
    · exact a11 c q x hx
/-- an entry behind an advance -/
theorem entry_adv {ze : Nat} {Ac Ac' Ar Ar' : gM} {uc ur b : Nat} {Tc Tr : Nat → Rw} {ρ : Nat → Nat} {V W : Nat → Prop} {uc' : Nat} {Tc' : Nat → Rw} {ur' : Nat} {Tr' : Nat → Rw} {ρ' : Nat → Nat} {V' : Nat → Prop} {k t : Nat} {R : Rw} {o : Nat → Nat} (hl : ∀ c, c < 10 → ρ c = c) (hl' : ∀ c, c < 10 → ρ' c = c) (hWV : ∀ x, W x → V x) (h : Adv uc Tc ur Tr ρ V W Ar uc' Tc' ur' Tr' ρ' V' Ar')
    (q1 : Ac' 139 k = Ac 139 k) (q2 : Ac' 181 k = Ac 181 k) (q3 : Ac' (141 + k) = Ac (141 + k)) (q4 : Ar' 190 (k + ze) = Ar 190 (k + ze)) (q5 : Ar' 191 (k + ze) = Ar 191 (k + ze)) (he : entry ze Ac Ar uc ur b Tc Tr ρ W k R o t) : entry ze Ac' Ar' uc' ur' b Tc' Tr' ρ' (fun x => V' x ∧ (V x → W x)) k R o t := by
  obtain ⟨⟨l, l1, l2, l3⟩, e2, e3, e4, e5, e6, e7, e8, e9, e10, e11, e12⟩ := he
  obtain ⟨a1, a2, a3, a4, a5, sC, sR, a6, a7, a8, a9, a10, a11, a12, a13⟩ := id h
  refine ⟨⟨l, l1, by rw [q1]; exact l2, by rw [q4]; exact l3⟩, by rw [q2]; exact e2, fun i c hi => by rw [q3]; exact e3 i c hi, by rw [q5]; exact e4, ⟨e5.1, by omega⟩, e6, e7, fun c hc => ?_, ?_, fun c hc hc2 x hx => ?_, fun c hc h1 h2 => ?_, e12⟩
  · have := e8 c hc; omega
  · rw [a8 t e5.2, e9, subE_comp]
    refine subE_cg fun c hc => ?_
    unfold em
    by_cases c1 : c < 10
    · rw [if_pos c1, if_pos c1, subE_one]; exact (a6 c c1).2
    · rw [if_neg c1, if_neg c1]
      by_cases c2 : c < 100
      · rw [if_pos c2, if_pos c2, subE_one]
        exact a12 _ (e11 c hc (by omega) c2).1 (e11 c hc (by omega) c2).2
      · rw [if_neg c2, if_neg c2, a7 _ (by have := e8 c hc; omega)]
        exact sub_rn hl hl' a6 (fun v hv => (a9 v hv).1) fun x hx => (e10 c hc (by omega) x hx).elim Or.inl fun z => Or.inr (hWV x z)
  · rw [a7 _ (by have := e8 c hc; omega)] at hx
    obtain ⟨d, hd, hx⟩ := subE_mem.mp hx
    rcases e10 c hc hc2 d hd with q | q
    · rw [(a6 d q).1, List.mem_singleton] at hx; subst hx; exact Or.inl q
    · exact a11 d q x hx
  · have := e11 c hc h1 h2
    exact ⟨by omega, by rw [a5 _ this.1]; exact this.2⟩
/-- the name more behind an advance -/
theorem EX_adv {ze zl zt : Nat} {Ar Ar' : gM} {uc ur b : Nat} {Tc Tr : Nat → Rw} {ρ : Nat → Nat} {V W : Nat → Prop} {uc' : Nat} {Tc' : Nat → Rw} {ur' : Nat} {Tr' : Nat → Rw} {ρ' : Nat → Nat} {V' : Nat → Prop} (hWV : ∀ x, W x → V x) (h : Adv uc Tc ur Tr ρ V W Ar uc' Tc' ur' Tr' ρ' V' Ar')
    (q4 : ∀ j, j < ze → Ar' 190 j = Ar 190 j) (q5 : ∀ j, j < ze → Ar' 191 j = Ar 191 j) (he : EX ze zl zt Ar b ur Tr ρ V) : EX ze zl zt Ar' b ur' Tr' ρ' V' := by
  obtain ⟨a1, a2, a3, a4, a5, sC, sR, a6, a7, a8, a9, a10, a11, a12, a13⟩ := h
  refine ⟨he.1, fun j hj => ?_⟩
  obtain ⟨e0, e1, e2, e3, e4, e5⟩ := he.2 j hj
  refine ⟨e0, by rw [q4 j hj]; exact e1, by rw [q5 j hj]; exact e2, ⟨e3.1, by omega⟩, ?_, fun x hx => ?_⟩
  · rw [a8 zt e3.2, e4, subE_one]
    exact a13 _ (by omega) fun v hv => e5 v (hWV v hv)
  · by_cases q : V x
    · rw [(a3 x q).2]; exact e5 x q
    · have := (a4 x hx q).2; omega
