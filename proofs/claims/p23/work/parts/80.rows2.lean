/-! ROWS IN THEIR NUMBERED FORM; DEPTH AND VARIABLES -/
def num0 (r : Rw) : Rw := num (fun _ => false) [] r
theorem num_cg {k1 k2 : Nat → Bool} : ∀ (r : Rw) (s : List Nat), (∀ c ∈ r, 10 ≤ c → k1 c = k2 c) → num k1 s r = num k2 s r
  | [], s, _ => rfl
  | c :: r, s, h => by
    have hr : ∀ d ∈ r, 10 ≤ d → k1 d = k2 d := fun d hd => h d (List.mem_cons_of_mem _ hd)
    rw [num_cons, num_cons]
    by_cases q : c < 10
    · rw [if_pos (Or.inl q), if_pos (Or.inl q), num_cg r s hr]
    · have e := h c List.mem_cons_self (by omega)
      rw [e, num_cg r s hr, num_cg r (s ++ [c]) hr]
theorem ix_map {ρ : Nat → Nat} : ∀ {s : List Nat} {c : Nat}, (∀ x ∈ s, ρ x = ρ c → x = c) → (s.map ρ).idxOf (ρ c) = s.idxOf c
  | [], c, _ => rfl
  | x :: s, c, h => by
    rw [List.map_cons, List.idxOf_cons, List.idxOf_cons, ix_map fun y hy => h y (List.mem_cons_of_mem _ hy)]
    by_cases e : x = c
    · subst e; simp
    · rw [show (x == c) = false by simpa using e, show (ρ x == ρ c) = false by simpa using fun z => e (h x List.mem_cons_self z)]
theorem num_rn {ρ : Nat → Nat} {V : Nat → Prop} (h : Ren ρ (lowV V)) : ∀ (r : Rw) (s : List Nat), (∀ x ∈ r, lowV V x) → (∀ x ∈ s, lowV V x) → num (fun _ => false) (s.map ρ) (rn ρ r) = num (fun _ => false) s r
  | [], s, _, _ => rfl
  | c :: r, s, hr, hs => by
    have hr' : ∀ x ∈ r, lowV V x := fun x hx => hr x (List.mem_cons_of_mem _ hx)
    have hc := hr c List.mem_cons_self
    rw [rn_cons, num_cons, num_cons]
    by_cases q : c < 10
    · rw [h.low c q, if_pos (Or.inl q), if_pos (Or.inl q), num_rn h r s hr' hs]
    · have q2 := h.high c (by omega)
      have n1 : ¬ (c < 10 ∨ (false : Bool) = true) := by simp; omega
      have n2 : ¬ (ρ c < 10 ∨ (false : Bool) = true) := by simp; omega
      rw [if_neg n1, if_neg n2]
      have hm : ρ c ∈ s.map ρ ↔ c ∈ s := by
        rw [List.mem_map]
        exact ⟨fun ⟨x, hx, e⟩ => by rw [← h.inj x c (hs x hx) hc e]; exact hx, fun z => ⟨c, z, rfl⟩⟩
      by_cases z : c ∈ s
      · rw [if_pos z, if_pos (hm.mpr z), ix_map fun x hx e => h.inj x c (hs x hx) hc e, num_rn h r s hr' hs]
      · rw [if_neg z, if_neg (fun y => z (hm.mp y)), List.length_map]
        have := num_rn h r (s ++ [c]) hr' fun x hx => (List.mem_append.mp hx).elim (hs x) fun y => by rw [List.mem_singleton] at y; rw [y]; exact hc
        rw [List.map_append] at this
        rw [← this]; rfl
theorem num0_rn {ρ : Nat → Nat} {V : Nat → Prop} (h : Ren ρ (lowV V)) {r : Rw} (hr : ∀ x ∈ r, lowV V x) : num0 (rn ρ r) = num0 r := num_rn h r [] hr fun x hx => by cases hx
theorem num0_len {r : Rw} : (num0 r).length = r.length := num_len
theorem num0_Ty {r : Rw} (h : Ty r) : Ty (num0 r) := by unfold Ty num0; rw [tk_num]; exact h
/-- depths of the types of a row, from its end -/
def dst : Rw → List Nat
  | [] => []
  | c :: r => if c = 2 ∨ c = 3 then (match dst r with
    | a :: b :: st => (1 + max a b) :: st
    | st => 1 :: st) else 1 :: dst r
def dep (r : Rw) : Nat := (dst r).headD 0
theorem dst_app : ∀ (n : Nat) {a : Rw}, a.length ≤ n → Ty a → ∀ s, dst (a ++ s) = dep a :: dst s
  | 0, a, hn, ha, s => absurd (List.length_eq_zero_iff.mp (by omega)) (Ty_ne ha)
  | n + 1, a, hn, ha, s => by
    rcases Ty_cases ha with ⟨c, hc, rfl⟩ | ⟨c, x, y, hc, hx, hy, rfl⟩
    · have : ¬ (c = 2 ∨ c = 3) := fun q => by rw [show ar c = 2 from if_pos q] at hc; cases hc
      show (if c = 2 ∨ c = 3 then _ else 1 :: dst s) = (if c = 2 ∨ c = 3 then _ else 1 :: dst []).headD 0 :: dst s
      rw [if_neg this, if_neg this]; rfl
    · have hp := ar_low hc
      have hl : x.length + y.length ≤ n := by simpa using hn
      have e1 : ∀ s, dst (x ++ y ++ s) = dep x :: dep y :: dst s := fun s => by rw [List.append_assoc, dst_app n (by omega) hx, dst_app n (by omega) hy]
      have e2 : ∀ s, dst (c :: (x ++ y ++ s)) = (1 + max (dep x) (dep y)) :: dst s := fun s => by
        show (if c = 2 ∨ c = 3 then (match dst (x ++ y ++ s) with | a :: b :: st => (1 + max a b) :: st | st => 1 :: st) else 1 :: dst (x ++ y ++ s)) = _
        rw [if_pos hp, e1]
      have e3 : dep (c :: (x ++ y)) = 1 + max (dep x) (dep y) := by
        have := e2 []
        rw [List.append_nil] at this
        unfold dep; rw [this]; rfl
      rw [List.cons_append, e2, e3]
theorem dep_pair {c : Nat} {x y : Rw} (hp : c = 2 ∨ c = 3) (hx : Ty x) (hy : Ty y) : dep (c :: (x ++ y)) = 1 + max (dep x) (dep y) := by
  have e : dst (x ++ y) = [dep x, dep y] := by
    rw [dst_app _ (Nat.le_refl _) hx]
    have := dst_app _ (Nat.le_refl _) hy []
    rw [List.append_nil] at this; rw [this]; rfl
  unfold dep
  show (if c = 2 ∨ c = 3 then (match dst (x ++ y) with | a :: b :: st => (1 + max a b) :: st | st => 1 :: st) else 1 :: dst (x ++ y)).headD 0 = _
  rw [if_pos hp, e]; rfl
theorem dep_leaf {c : Nat} (hc : ¬ (c = 2 ∨ c = 3)) : dep [c] = 1 := by
  unfold dep
  show (if c = 2 ∨ c = 3 then _ else 1 :: dst []).headD 0 = 1
  rw [if_neg hc]; rfl
theorem dst_num {keep : Nat → Bool} : ∀ (r : Rw) (s : List Nat), dst (num keep s r) = dst r
  | [], s => rfl
  | c :: r, s => by
    rw [num_cons]
    have leaf : ∀ d s', ¬ (c = 2 ∨ c = 3) → ¬ (d = 2 ∨ d = 3) → dst (d :: num keep s' r) = dst (c :: r) := fun d s' h1 h2 => by
      show (if d = 2 ∨ d = 3 then _ else 1 :: dst (num keep s' r)) = (if c = 2 ∨ c = 3 then _ else 1 :: dst r)
      rw [if_neg h1, if_neg h2, dst_num r s']
    by_cases h : c < 10 ∨ keep c = true
    · rw [if_pos h]
      by_cases q : c = 2 ∨ c = 3
      · show (if c = 2 ∨ c = 3 then (match dst (num keep s r) with | a :: b :: st => (1 + max a b) :: st | st => 1 :: st) else _) = (if c = 2 ∨ c = 3 then (match dst r with | a :: b :: st => (1 + max a b) :: st | st => 1 :: st) else _)
        rw [if_pos q, if_pos q, dst_num r s]
      · exact leaf c s q q
    · rw [if_neg h]
      by_cases q : c ∈ s
      · rw [if_pos q]; exact leaf _ s (by omega) (by omega)
      · rw [if_neg q]; exact leaf _ _ (by omega) (by omega)
theorem dep_num0 {r : Rw} : dep (num0 r) = dep r := by unfold dep num0; rw [dst_num]
theorem dst_len : ∀ (r : Rw), (dst r).length ≤ r.length
  | [] => Nat.le_refl _
  | c :: r => by
    have ih := dst_len r
    show (if c = 2 ∨ c = 3 then (match dst r with | a :: b :: st => (1 + max a b) :: st | st => 1 :: st) else 1 :: dst r).length ≤ _
    by_cases q : c = 2 ∨ c = 3
    · rw [if_pos q]
      split
      · rename_i a b st e
        rw [e] at ih; simp only [List.length_cons] at ih ⊢; omega
      · rw [List.length_cons, List.length_cons]; omega
    · rw [if_neg q, List.length_cons, List.length_cons]; omega
/-- how many variables a numbered row has -/
def vrs (r : Rw) : Nat := r.foldl (fun m c => max m (c - 9)) 0
