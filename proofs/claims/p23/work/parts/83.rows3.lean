/-! NUMBERED ROWS: renamed rows, rows side by side -/
abbrev kN : Nat → Bool := fun _ => false
theorem nkN {c : Nat} (h : 10 ≤ c) : ¬ (c < 10 ∨ kN c = true) := by simp [kN]; omega
/-- the seats of a row's variables -/
def sts (r : Rw) : List Nat := seatsOf kN [] r
theorem num_idx : ∀ (r : Rw) (s t : List Nat), seatsOf kN s r = s ++ t → num kN s r = r.map fun c => if c < 10 then c else 10 + (seatsOf kN s r).idxOf c
  | [], s, t, _ => rfl
  | c :: r, s, t, h => by
    rw [num_cons, List.map_cons]
    by_cases q : c < 10
    · have e : seatsOf kN s (c :: r) = seatsOf kN s r := by rw [seats_cons, if_pos (Or.inl q)]
      rw [if_pos (Or.inl q), e, if_pos q]
      obtain ⟨t2, h2⟩ := seats_pre (keep := kN) r s
      rw [← num_idx r s t2 h2]
    · have q2 := nkN (c := c) (by omega)
      rw [if_neg q2, if_neg q]
      by_cases z : c ∈ s
      · have e : seatsOf kN s (c :: r) = seatsOf kN s r := by rw [seats_cons, if_neg q2, if_pos z]
        obtain ⟨t2, h2⟩ := seats_pre (keep := kN) r s
        rw [if_pos z, e, ← num_idx r s t2 h2, h2, List.idxOf_append, if_pos z]
      · have e : seatsOf kN s (c :: r) = seatsOf kN (s ++ [c]) r := by rw [seats_cons, if_neg q2, if_neg z]
        obtain ⟨t2, h2⟩ := seats_pre (keep := kN) r (s ++ [c])
        rw [if_neg z, e, ← num_idx r (s ++ [c]) t2 h2, h2, List.idxOf_append, if_pos (List.mem_append.mpr (Or.inr (List.mem_singleton.mpr rfl)))]
        congr 1
        rw [List.idxOf_append, if_neg z]
        simp [List.idxOf_cons]
theorem num0_idx (r : Rw) : num0 r = r.map fun c => if c < 10 then c else 10 + (sts r).idxOf c := by
  obtain ⟨t, h⟩ := seats_pre (keep := kN) r []
  exact num_idx r [] t h
theorem sts_all : ∀ (r : Rw) (s : List Nat), ∀ c ∈ r, 10 ≤ c → c ∈ seatsOf kN s r
  | [], s, c, hc, _ => by cases hc
  | d :: r, s, c, hc, h10 => by
    rw [seats_cons]
    have pre : ∀ s' : List Nat, c ∈ s' → c ∈ seatsOf kN s' r := fun s' h => by
      obtain ⟨t, ht⟩ := seats_pre (keep := kN) r s'
      rw [ht]; exact List.mem_append.mpr (Or.inl h)
    by_cases q : d < 10
    · rw [if_pos (Or.inl q)]
      rcases List.mem_cons.mp hc with rfl | hc
      · omega
      · exact sts_all r s c hc h10
    · have q2 := nkN (c := d) (by omega)
      rw [if_neg q2]
      by_cases z : d ∈ s
      · rw [if_pos z]
        rcases List.mem_cons.mp hc with rfl | hc
        · exact pre s z
        · exact sts_all r s c hc h10
      · rw [if_neg z]
        rcases List.mem_cons.mp hc with rfl | hc
        · exact pre _ (List.mem_append.mpr (Or.inr (List.mem_singleton.mpr rfl)))
        · exact sts_all r _ c hc h10
theorem sts_in {r : Rw} {c : Nat} (h : c ∈ sts r) : c ∈ r ∧ 10 ≤ c := by
  rcases seats_in r [] c h with q | ⟨q1, q2⟩
  · cases q
  · refine ⟨q1, ?_⟩
    by_cases z : c < 10
    · exact absurd (Or.inl z) q2
    · omega
theorem sts_nd (r : Rw) : (sts r).Nodup := seats_nd r [] List.nodup_nil
/-- two rows with the same numbers are each other's with other variables -/
theorem num0_ren {a b : Rw} (h : num0 a = num0 b) : ∃ ρ : Nat → Nat, (∀ c, c < 10 → ρ c = c) ∧ (∀ c ∈ a, 10 ≤ c → 10 ≤ ρ c ∧ ρ c ∈ b) ∧ (∀ x ∈ a, ∀ y ∈ a, ρ x = ρ y → x = y) ∧ b = rn ρ a := by
  have hl : a.length = b.length := by rw [← num0_len (r := a), h, num0_len]
  have key : ∀ (i x y : Nat), a[i]? = some x → b[i]? = some y → (x < 10 ∧ y = x) ∨ (10 ≤ x ∧ 10 ≤ y ∧ (sts a).idxOf x = (sts b).idxOf y) := fun i x y hx hy => by
    have e : (num0 a)[i]? = (num0 b)[i]? := by rw [h]
    rw [num0_idx a, num0_idx b, List.getElem?_map, List.getElem?_map, hx, hy] at e
    have e : (if x < 10 then x else 10 + (sts a).idxOf x) = (if y < 10 then y else 10 + (sts b).idxOf y) := Option.some.inj e
    by_cases q : x < 10
    · rw [if_pos q] at e
      by_cases z : y < 10
      · rw [if_pos z] at e; exact Or.inl ⟨q, e.symm⟩
      · rw [if_neg z] at e; omega
    · rw [if_neg q] at e
      by_cases z : y < 10
      · rw [if_pos z] at e; omega
      · rw [if_neg z] at e; exact Or.inr ⟨by omega, by omega, by omega⟩
  obtain ⟨ρ, hρ⟩ : ∃ ρ : Nat → Nat, ∀ x, ρ x = if x < 10 then x else (sts b).getD ((sts a).idxOf x) 0 := ⟨fun x => if x < 10 then x else (sts b).getD ((sts a).idxOf x) 0, fun _ => rfl⟩
  have val : ∀ (i x y : Nat), a[i]? = some x → b[i]? = some y → ρ x = y := fun i x y hx hy => by
    rcases key i x y hx hy with ⟨q1, q2⟩ | ⟨q1, q2, q3⟩
    · rw [hρ, if_pos q1, q2]
    · rw [hρ, if_neg (by omega), q3]
      exact getD_ix (sts_all b [] y (List.mem_iff_getElem?.mpr ⟨i, hy⟩) q2)
  have at_ : ∀ x ∈ a, ∃ i y, a[i]? = some x ∧ b[i]? = some y := fun x hx => by
    obtain ⟨i, hi⟩ := List.mem_iff_getElem?.mp hx
    have hlt := (List.getElem?_eq_some_iff.mp hi).1
    exact ⟨i, b[i]'(by omega), hi, List.getElem?_eq_getElem (by omega)⟩
  refine ⟨ρ, fun c hc => by rw [hρ, if_pos hc], fun c hc h10 => ?_, fun x hx y hy e => ?_, ?_⟩
  · obtain ⟨i, y, hi, hy⟩ := at_ c hc
    rw [val i c y hi hy]
    rcases key i c y hi hy with ⟨q1, q2⟩ | ⟨q1, q2, q3⟩
    · omega
    · exact ⟨q2, List.mem_iff_getElem?.mpr ⟨i, hy⟩⟩
  · obtain ⟨i, x', hi, hx'⟩ := at_ x hx
    obtain ⟨j, y', hj, hy'⟩ := at_ y hy
    rw [val i x x' hi hx', val j y y' hj hy'] at e
    subst e
    rcases key i x x' hi hx' with ⟨q1, q2⟩ | ⟨q1, q2, q3⟩
    · rcases key j y x' hj hy' with ⟨z1, z2⟩ | ⟨z1, z2, z3⟩
      · omega
      · omega
    · rcases key j y x' hj hy' with ⟨z1, z2⟩ | ⟨z1, z2, z3⟩
      · omega
      · have e2 : (sts a).idxOf x = (sts a).idxOf y := by rw [q3, z3]
        have g1 := getD_ix (sts_all a [] x hx q1)
        have g2 := getD_ix (sts_all a [] y hy z1)
        have g1 : (sts a).getD ((sts a).idxOf x) 0 = x := g1
        have g2 : (sts a).getD ((sts a).idxOf y) 0 = y := g2
        rw [← g1, e2, g2]
  · refine List.ext_getElem? fun i => ?_
    show b[i]? = (a.map ρ)[i]?
    rw [List.getElem?_map]
    by_cases q : i < a.length
    · have e1 : a[i]? = some a[i] := List.getElem?_eq_getElem q
      have e2 : b[i]? = some (b[i]'(by omega)) := List.getElem?_eq_getElem (by omega)
      rw [e1, e2, Option.map_some, val i _ _ e1 e2]
    · rw [List.getElem?_eq_none (by omega), List.getElem?_eq_none (by omega)]; rfl
/-- a row of other variables has the same numbers -/
theorem num0_rnm {ρ : Nat → Nat} {a : Rw} (h0 : ∀ c, c < 10 → ρ c = c) (h1 : ∀ c ∈ a, 10 ≤ c → 10 ≤ ρ c) (h2 : ∀ x ∈ a, ∀ y ∈ a, ρ x = ρ y → x = y) : num0 (rn ρ a) = num0 a := by
  obtain ⟨σ, hσ⟩ : ∃ σ : Nat → Nat, (∀ c, c < 10 → σ c = c) ∧ (∀ c, 10 ≤ c → 10 ≤ σ c) ∧ ∀ c ∈ a, σ c = ρ c := by
    classical
    refine ⟨fun c => if c ∈ a then ρ c else c, fun c hc => ?_, fun c hc => ?_, fun c hc => if_pos hc⟩
    · show (if c ∈ a then ρ c else c) = c
      by_cases q : c ∈ a
      · rw [if_pos q, h0 c hc]
      · rw [if_neg q]
    · show 10 ≤ (if c ∈ a then ρ c else c)
      by_cases q : c ∈ a
      · rw [if_pos q]; exact h1 c q hc
      · rw [if_neg q]; exact hc
  have e : rn ρ a = rn σ a := rn_cg fun x hx => (hσ.2.2 x hx).symm
  rw [e]
  refine num0_rn (V := fun c => c ∈ a) ⟨hσ.1, hσ.2.1, fun x y hx hy e => ?_⟩ fun x hx => Or.inr hx
  have im : ∀ z, lowV (fun c => c ∈ a) z → (z < 10 ∧ σ z = z) ∨ (10 ≤ z ∧ z ∈ a ∧ 10 ≤ σ z) := fun z hz => by
    by_cases q : z < 10
    · exact Or.inl ⟨q, hσ.1 z q⟩
    · rcases hz with hz | hz
      · exact absurd hz q
      · exact Or.inr ⟨by omega, hz, hσ.2.1 z (by omega)⟩
  rcases im x hx with ⟨q1, q2⟩ | ⟨q1, q2, q3⟩
  · rcases im y hy with ⟨z1, z2⟩ | ⟨z1, z2, z3⟩
    · rw [q2, z2] at e; exact e
    · omega
  · rcases im y hy with ⟨z1, z2⟩ | ⟨z1, z2, z3⟩
    · omega
    · rw [hσ.2.2 x q2, hσ.2.2 y z2] at e; exact h2 x q2 y z2 e
/-- the variables of a row, k further -/
def shf (k : Nat) (r : Rw) : Rw := r.map fun c => if c < 10 then c else c + k
theorem shf_len {k : Nat} {r : Rw} : (shf k r).length = r.length := List.length_map _
theorem num_shf : ∀ (r : Rw) (p s : List Nat), (∀ x ∈ r, x ∉ p) → num kN (p ++ s) r = shf p.length (num kN s r) ∧ seatsOf kN (p ++ s) r = p ++ seatsOf kN s r
  | [], p, s, _ => ⟨rfl, rfl⟩
  | c :: r, p, s, h => by
    have hr : ∀ x ∈ r, x ∉ p := fun x hx => h x (List.mem_cons_of_mem _ hx)
    have hc := h c List.mem_cons_self
    rw [num_cons, num_cons, seats_cons, seats_cons]
    by_cases q : c < 10
    · rw [if_pos (Or.inl q), if_pos (Or.inl q), if_pos (Or.inl q), if_pos (Or.inl q)]
      obtain ⟨i1, i2⟩ := num_shf r p s hr
      refine ⟨?_, i2⟩
      rw [i1]
      show c :: _ = (if c < 10 then c else c + p.length) :: _
      rw [if_pos q]; rfl
    · have q2 := nkN (c := c) (by omega)
      rw [if_neg q2, if_neg q2, if_neg q2, if_neg q2]
      have hm : c ∈ p ++ s ↔ c ∈ s := ⟨fun z => (List.mem_append.mp z).elim (fun y => absurd y hc) id, fun z => List.mem_append.mpr (Or.inr z)⟩
      by_cases z : c ∈ s
      · rw [if_pos (hm.mpr z), if_pos z, if_pos (hm.mpr z), if_pos z]
        obtain ⟨i1, i2⟩ := num_shf r p s hr
        refine ⟨?_, i2⟩
        rw [i1, List.idxOf_append, if_neg hc]
        show _ = (if 10 + s.idxOf c < 10 then _ else 10 + s.idxOf c + p.length) :: _
        rw [if_neg (by omega)]
        congr 1
        omega
      · rw [if_neg (fun y => z (hm.mp y)), if_neg z, if_neg (fun y => z (hm.mp y)), if_neg z]
        obtain ⟨i1, i2⟩ := num_shf r p (s ++ [c]) hr
        rw [← List.append_assoc] at i1 i2
        refine ⟨?_, i2⟩
        rw [i1, List.length_append]
        show _ = (if 10 + s.length < 10 then _ else 10 + s.length + p.length) :: _
        rw [if_neg (by omega)]
        congr 1
        omega
/-- the row of two types side by side, of different variables -/
theorem num0_pair {c : Nat} {a b : Rw} (hc : c < 10) (h : ∀ x ∈ b, 10 ≤ x → x ∉ a) : num0 (c :: (a ++ b)) = c :: (num0 a ++ shf (sts a).length (num0 b)) ∧ sts (c :: (a ++ b)) = sts a ++ sts b := by
  have hb : ∀ x ∈ b, x ∉ sts a := fun x hx z => by
    have := sts_in z
    exact h x hx this.2 this.1
  have e := num_shf b (sts a) [] hb
  rw [List.append_nil] at e
  have sa : ∀ (x y : Rw) (s : List Nat), seatsOf kN s (x ++ y) = seatsOf kN (seatsOf kN s x) y := by
    intro x
    induction x with
    | nil => intros; rfl
    | cons d x ih =>
      intro y s
      rw [List.cons_append, seats_cons, seats_cons]
      by_cases q : d < 10 ∨ kN d = true
      · rw [if_pos q, if_pos q, ih]
      · rw [if_neg q, if_neg q]
        by_cases z : d ∈ s
        · rw [if_pos z, if_pos z, ih]
        · rw [if_neg z, if_neg z, ih]
  constructor
  · show num kN [] (c :: (a ++ b)) = _
    rw [num_cons, if_pos (Or.inl hc), num_app]
    show c :: (num kN [] a ++ num kN (sts a) b) = _
    rw [e.1]; rfl
  · show seatsOf kN [] (c :: (a ++ b)) = _
    rw [seats_cons, if_pos (Or.inl hc), sa]
    exact e.2
theorem vrs_go : ∀ (r : Rw) (m : Nat), r.foldl (fun m c => max m (c - 9)) m = max m (vrs r)
  | [], m => by show m = max m 0; omega
  | c :: r, m => by
    show r.foldl (fun m c => max m (c - 9)) (max m (c - 9)) = max m (r.foldl (fun m c => max m (c - 9)) (max 0 (c - 9)))
    rw [vrs_go r, vrs_go r]; omega
theorem vrs_cons {c : Nat} {r : Rw} : vrs (c :: r) = max (c - 9) (vrs r) := by
  show r.foldl (fun m c => max m (c - 9)) (max 0 (c - 9)) = _
  rw [vrs_go]; omega
/-- how many variables a numbered row has: its seats -/
theorem vrs_num : ∀ (r : Rw) (s : List Nat), max s.length (vrs (num kN s r)) = (seatsOf kN s r).length
  | [], s => by show max s.length 0 = s.length; omega
  | c :: r, s => by
    rw [num_cons, seats_cons]
    by_cases q : c < 10
    · rw [if_pos (Or.inl q), if_pos (Or.inl q), vrs_cons, ← vrs_num r s]; omega
    · have q2 := nkN (c := c) (by omega)
      rw [if_neg q2, if_neg q2]
      by_cases z : c ∈ s
      · have := List.idxOf_lt_length_of_mem z
        rw [if_pos z, if_pos z, vrs_cons, ← vrs_num r s]; omega
      · rw [if_neg z, if_neg z, vrs_cons, ← vrs_num r (s ++ [c]), List.length_append, List.length_singleton]; omega
theorem vrs_num0 (r : Rw) : vrs (num0 r) = (sts r).length := by
  have := vrs_num r []
  rw [List.length_nil, Nat.zero_max] at this
  exact this
theorem shf_inj {k : Nat} {a b : Rw} (h : shf k a = shf k b) (ha : ∀ c ∈ a, c < 10 ∨ 10 ≤ c) : a = b := by
  have hl : a.length = b.length := by rw [← shf_len (k := k) (r := a), h, shf_len]
  refine List.ext_getElem? fun i => ?_
  by_cases q : i < a.length
  · have e1 : a[i]? = some a[i] := List.getElem?_eq_getElem q
    have e2 : b[i]? = some (b[i]'(by omega)) := List.getElem?_eq_getElem (by omega)
    have e : (shf k a)[i]? = (shf k b)[i]? := by rw [h]
    unfold shf at e
    rw [List.getElem?_map, List.getElem?_map, e1, e2] at e
    have e : (if a[i] < 10 then a[i] else a[i] + k) = (if b[i]'(by omega) < 10 then b[i]'(by omega) else b[i]'(by omega) + k) := Option.some.inj e
    rw [e1, e2]
    congr 1
    by_cases z1 : a[i] < 10
    · rw [if_pos z1] at e
      by_cases z2 : b[i]'(by omega) < 10
      · rw [if_pos z2] at e; exact e
      · rw [if_neg z2] at e; omega
    · rw [if_neg z1] at e
      by_cases z2 : b[i]'(by omega) < 10
      · rw [if_pos z2] at e; omega
      · rw [if_neg z2] at e; omega
  · rw [List.getElem?_eq_none (by omega), List.getElem?_eq_none (by omega)]
