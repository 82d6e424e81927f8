/-! ROWS OF THE STORE -/
theorem sT_ind {A : gM} {u : Nat} {T : Nat → Rw} {ch : Nat → Nat} (h : sT A u T ch) {P : Nat → Prop}
    (low : ∀ n, n < 2 → T n = [n] → P n) (var : ∀ n, n < u → 2 ≤ n → A 130 n = nI 4 → T n = [100 + n] → P n)
    (giv : ∀ n i, n < u → i < u → T n = T i → P i → P n)
    (pair : ∀ n c i j, n < u → i < u → j < u → (c = 2 ∨ c = 3) → T n = c :: (T i ++ T j) → P i → P j → P n) : ∀ n, n < u → P n := by
  have main : ∀ (L k n : Nat), n < u → (T n).length ≤ L → ch n < k → P n := by
    intro L
    induction L with
    | zero =>
      intro k
      induction k with
      | zero => intro n _ _ h3; omega
      | succ k ih =>
        intro n hn hl hk
        rcases h.2.2.2.1 n hn with q | q | ⟨-, -, i, hi, -, hT, hc⟩ | ⟨-, c, i, j, hc, hi, hj, -, -, -, hT⟩
        · exact low n q.1 q.2.2
        · exact var n hn q.1 q.2.1 q.2.2
        · exact giv n i hn hi hT (ih i hi (by rw [← hT]; exact hl) (by omega))
        · rw [hT] at hl; simp at hl
    | succ L ihL =>
      intro k
      induction k with
      | zero => intro n _ _ h3; omega
      | succ k ih =>
        intro n hn hl hk
        rcases h.2.2.2.1 n hn with q | q | ⟨-, -, i, hi, -, hT, hc⟩ | ⟨-, c, i, j, hc, hi, hj, -, -, -, hT⟩
        · exact low n q.1 q.2.2
        · exact var n hn q.1 q.2.1 q.2.2
        · exact giv n i hn hi hT (ih i hi (by rw [← hT]; exact hl) (by omega))
        · rw [hT] at hl
          have hl2 : (T i).length + (T j).length ≤ L := by simpa using hl
          exact pair n c i j hn hi hj hc hT (ihL (ch i + 1) i hi (by omega) (by omega)) (ihL (ch j + 1) j hj (by omega) (by omega))
  intro n hn
  exact main (T n).length (ch n + 1) n hn (Nat.le_refl _) (by omega)
theorem sT_Ty {A : gM} {u : Nat} {T : Nat → Rw} {ch : Nat → Nat} (h : sT A u T ch) : ∀ n, n < u → Ty (T n) := by
  refine sT_ind h (fun n hn e => ?_) (fun n _ _ _ e => ?_) (fun n i _ _ e p => ?_) (fun n c i j _ _ _ hc e p1 p2 => ?_)
  · rw [e]; exact Ty_leaf (if_neg (by omega))
  · rw [e]; exact Ty_leaf (if_neg (by omega))
  · rw [e]; exact p
  · rw [e]; exact Ty_pair (if_pos hc) p1 p2
/-- the codes of rows: low ones, and variables of the store -/
theorem sT_code {A : gM} {u : Nat} {T : Nat → Rw} {ch : Nat → Nat} (h : sT A u T ch) : ∀ n, n < u → ∀ x ∈ T n, x ≤ 3 ∨ ∃ v, v < u ∧ 2 ≤ v ∧ x = 100 + v ∧ A 130 v = nI 4 ∧ T v = [100 + v] := by
  refine sT_ind h (fun n hn e => ?_) (fun n hn h2 h4 e => ?_) (fun n i _ _ e p => ?_) (fun n c i j _ _ _ hc e p1 p2 => ?_)
  · rw [e]; intro x hx; rw [List.mem_singleton] at hx; left; omega
  · rw [e]; intro x hx; rw [List.mem_singleton] at hx; exact Or.inr ⟨n, hn, h2, hx, h4, e⟩
  · rw [e]; exact p
  · rw [e]; intro x hx
    rcases List.mem_cons.mp hx with hx | hx
    · left; omega
    · rcases List.mem_append.mp hx with hx | hx
      · exact p1 x hx
      · exact p2 x hx
/-- codes of a row with the variables numbered as they come; those that stay keep their codes -/
def num (keep : Nat → Bool) : List Nat → Rw → Rw
  | _, [] => []
  | s, c :: r => if c < 10 ∨ keep c = true then c :: num keep s r else if c ∈ s then (10 + s.idxOf c) :: num keep s r else (10 + s.length) :: num keep (s ++ [c]) r
def seatsOf (keep : Nat → Bool) : List Nat → Rw → List Nat
  | s, [] => s
  | s, c :: r => if c < 10 ∨ keep c = true then seatsOf keep s r else if c ∈ s then seatsOf keep s r else seatsOf keep (s ++ [c]) r
theorem num_cons {keep : Nat → Bool} {s : List Nat} {c : Nat} {r : Rw} : num keep s (c :: r) = if c < 10 ∨ keep c = true then c :: num keep s r else if c ∈ s then (10 + s.idxOf c) :: num keep s r else (10 + s.length) :: num keep (s ++ [c]) r := rfl
theorem seats_cons {keep : Nat → Bool} {s : List Nat} {c : Nat} {r : Rw} : seatsOf keep s (c :: r) = if c < 10 ∨ keep c = true then seatsOf keep s r else if c ∈ s then seatsOf keep s r else seatsOf keep (s ++ [c]) r := rfl
theorem num_app {keep : Nat → Bool} : ∀ {a b : Rw} {s : List Nat}, num keep s (a ++ b) = num keep s a ++ num keep (seatsOf keep s a) b
  | [], b, s => rfl
  | c :: a, b, s => by
    rw [List.cons_append, num_cons, num_cons, seats_cons]
    by_cases h : c < 10 ∨ keep c = true
    · rw [if_pos h, if_pos h, if_pos h, num_app]; rfl
    · rw [if_neg h, if_neg h, if_neg h]
      by_cases h2 : c ∈ s
      · rw [if_pos h2, if_pos h2, if_pos h2, num_app]; rfl
      · rw [if_neg h2, if_neg h2, if_neg h2, num_app]; rfl
theorem num_len {keep : Nat → Bool} : ∀ {a : Rw} {s : List Nat}, (num keep s a).length = a.length
  | [], s => rfl
  | c :: a, s => by
    rw [num_cons]
    by_cases h : c < 10 ∨ keep c = true
    · rw [if_pos h, List.length_cons, num_len]; rfl
    · rw [if_neg h]
      by_cases h2 : c ∈ s
      · rw [if_pos h2, List.length_cons, num_len]; rfl
      · rw [if_neg h2, List.length_cons, num_len]; rfl
/-- the stack of a walk: its top is the head of the list -/
def stk (A : gM) : List Nat → Prop
  | [] => True
  | n :: st => A 134 st.length = nI n ∧ stk A st
theorem stk_same {A A' : gM} : ∀ {st : List Nat}, (∀ j, j < st.length → A' 134 j = A 134 j) → stk A st → stk A' st
  | [], _, _ => trivial
  | n :: st, h, q => ⟨by rw [h st.length (by simp)]; exact q.1, stk_same (fun j hj => h j (by simp; omega)) q.2⟩
def restOf (T : Nat → Rw) : List Nat → Rw
  | [] => []
  | n :: st => T n ++ restOf T st
theorem restOf_len {T : Nat → Rw} {u : Nat} (h : ∀ n, n < u → Ty (T n)) : ∀ {st : List Nat}, (∀ n ∈ st, n < u) → st.length ≤ (restOf T st).length
  | [], _ => Nat.le_refl _
  | n :: st, q => by
    have h1 := restOf_len h (st := st) fun m hm => q m (List.mem_cons_of_mem _ hm)
    have h2 : 0 < (T n).length := by
      have := Ty_ne (h n (q n List.mem_cons_self))
      cases hT : T n with
      | nil => exact absurd hT this
      | cons a r => simp
    show st.length + 1 ≤ (T n ++ restOf T st).length
    rw [List.length_append]; omega
