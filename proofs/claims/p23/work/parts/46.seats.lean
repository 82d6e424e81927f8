/-! SEATS OF VARIABLES IN A ROW -/
theorem ix_of : ∀ (s : List Nat) (i c : Nat), s[i]? = some c → (∀ j, j < i → s[j]? ≠ some c) → s.idxOf c = i
  | [], i, c, h, _ => by simp at h
  | x :: s, 0, c, h, _ => by
    have : x = c := by simpa using h
    subst this; simp [List.idxOf_cons]
  | x :: s, i + 1, c, h, hn => by
    have h0 : x ≠ c := by have := hn 0 (by omega); simpa using this
    have h1 : s[i]? = some c := by simpa using h
    have ih := ix_of s i c h1 fun j hj => by have := hn (j + 1) (by omega); simpa using this
    rw [List.idxOf_cons, show (x == c) = false by simpa using h0, ih]; rfl
def seat (A : gM) (s : List Nat) : Prop := A 129 8 = nI s.length ∧ s.length ≤ 60 ∧ ∀ i c, s[i]? = some c → ∃ w, w ≤ 2600 ∧ c = 100 + w ∧ A 137 i = nI w
theorem seat_same {A A' : gM} {s : List Nat} (h : seat A s) (h1 : A' 129 8 = A 129 8) (h2 : A' 137 = A 137) : seat A' s := ⟨h1.trans h.1, h.2.1, by rw [h2]; exact h.2.2⟩
theorem seat_L {A : gM} {s : List Nat} {v : Nat} (h : seat A s) (hv : v ≤ 2600) : ∀ (f i : Nat), s.length < f + i → (∀ j, j < i → s[j]? ≠ some (100 + v)) → i ≤ s.length →
    mX4_seatOf_L2 f A (nI v) (nI i) = if 100 + v ∈ s then some (A, nI (s.idxOf (100 + v))) else mX4_seatOf_b34 A (nI v)
  | 0, i, hf, _, hi => by omega
  | f + 1, i, hf, hn, hi => by
    have hl := h.2.1
    show mX4_seatOf_b2 (mX4_seatOf_L2 f) A (nI v) (nI i) = _
    unfold mX4_seatOf_b2
    rw [h.1]
    by_cases e : s.length ≤ i
    · have : 100 + v ∉ s := by
        intro hm
        obtain ⟨j, hj⟩ := List.mem_iff_getElem?.mp hm
        have : j < s.length := (List.getElem?_eq_some_iff.mp hj).1
        exact hn j (by omega) hj
      rw [if_pos (by rw [nle (by omega) (by omega)]; exact e), if_neg this]
    · rw [if_neg (by rw [nle (by omega) (by omega)]; exact e), show (60 : Int32) = nI 60 from rfl, if_neg (by rw [nle (by omega) (by omega)]; omega), gin (by omega) (by omega), if_pos rfl, ncl (by omega)]
      have hg : s[i]? = some s[i] := List.getElem?_eq_getElem (by omega)
      obtain ⟨w, hw, hc, ha⟩ := h.2.2 i _ hg
      rw [ha]
      by_cases q : w = v
      · subst q
        rw [hc] at hg
        rw [if_pos rfl, if_pos (List.mem_iff_getElem?.mpr ⟨i, hg⟩), ix_of s i _ hg hn]
      · rw [if_neg (by rw [neq (by omega) (by omega)]; exact q)]
        unfold g_let
        rw [show nI i + 1 = nI (i + 1) from (nI_succ i).symm]
        refine seat_L h hv f (i + 1) (by omega) (fun j hj => ?_) (by omega)
        by_cases ej : j = i
        · subst ej; rw [hg, hc]; intro z; have := Option.some.inj z; omega
        · exact hn j (by omega)
/-- the seat of a variable, an old one or a new one -/
theorem seatOf_ok {A : gM} {s : List Nat} {v : Nat} (h : seat A s) (hv : v ≤ 2600) (hl : s.length < 60) : ∃ A' k, mX4_seatOf A (nI v) = some (A', nI k) ∧ k ≤ 60 ∧
    seat A' (if 100 + v ∈ s then s else s ++ [100 + v]) ∧ k = (if 100 + v ∈ s then s.idxOf (100 + v) else s.length) ∧ ∀ a b, a ≠ 137 → ¬ (a = 129 ∧ b = 8) → A' a b = A a b := by
  have h0 := seat_L h hv gF 0 (by unfold gF; omega) (fun j hj => by omega) (by omega)
  have h1 : mX4_seatOf A (nI v) = _ := h0
  by_cases q : 100 + v ∈ s
  · rw [if_pos q] at h1
    refine ⟨A, s.idxOf (100 + v), h1, ?_, ?_, ?_, fun _ _ _ _ => rfl⟩
    · have := List.idxOf_lt_length_of_mem q; omega
    · rw [if_pos q]; exact h
    · rw [if_pos q]
  · rw [if_neg q] at h1
    refine ⟨g_up (g_up A 137 s.length (nI v)) 129 8 (nI (s.length + 1)), s.length, ?_, by omega, ?_, ?_, fun a b h1 h2 => ?_⟩
    · rw [h1]
      unfold mX4_seatOf_b34
      rw [h.1, if_neg (nlt0 (by omega)), show (60 : Int32) = nI 60 from rfl, if_neg (by rw [nle (by omega) (by omega)]; omega), gin (by omega) (by omega), if_pos rfl]
      unfold g_let mX4_seatOf_b70
      dsimp only
      rw [ncl (by omega), up_c (by omega), h.1, show nI s.length + 1 = nI (s.length + 1) from (nI_succ _).symm, up_s, nI_pred]
    · rw [if_neg q]
      refine ⟨by rw [up_s, List.length_append]; rfl, by rw [List.length_append]; simp; omega, fun i c hc => ?_⟩
      by_cases e : i < s.length
      · rw [List.getElem?_append_left e] at hc
        obtain ⟨w, hw, h2, h3⟩ := h.2.2 i c hc
        exact ⟨w, hw, h2, by rw [up_c (by omega), up_p (by omega)]; exact h3⟩
      · rw [List.getElem?_append_right (by omega)] at hc
        have : i - s.length = 0 := by
          by_cases z : i - s.length = 0
          · exact z
          · rw [List.getElem?_eq_none (by simp; omega)] at hc; cases hc
        have e2 : i = s.length := by omega
        subst e2
        simp at hc
        exact ⟨v, hv, hc.symm, by rw [up_c (by omega), up_s]⟩
    · rw [if_neg q]
    · rw [up_get, if_neg h2, up_c h1]
/-- a variable stays as it is if it is marked -/
def kp (A : gM) (c : Nat) : Bool := decide (A 133 (c - 100) = A 129 10)
theorem kp_v {A : gM} {n : Nat} : kp A (100 + n) = true ↔ A 133 n = A 129 10 := by
  unfold kp
  rw [show 100 + n - 100 = n by omega, decide_eq_true_iff]
theorem codeOf_ok {A : gM} {u : Nat} {T : Nat → Rw} {ch : Nat → Nat} {s : List Nat} {n : Nat} (h : sT A u T ch) (hs : seat A s) (hl : s.length < 60) (hn : n < u) (h5 : A 130 n ≠ nI 5) :
    ∃ A' x c tl, T n = c :: tl ∧ mX4_codeOf A (nI n) = some (A', nI x) ∧ x ≤ 3000 ∧ num (kp A) s [c] = [x] ∧ seat A' (seatsOf (kp A) s [c]) ∧ ∀ a b, a ≠ 137 → ¬ (a = 129 ∧ b = 8) → A' a b = A a b := by
  have hu := h.2.2.1
  have low : ∀ {c : Nat} {tl : Rw}, c < 4 → A 130 n = nI c → T n = c :: tl → ∃ A' x c tl, T n = c :: tl ∧ mX4_codeOf A (nI n) = some (A', nI x) ∧ x ≤ 3000 ∧ num (kp A) s [c] = [x] ∧ seat A' (seatsOf (kp A) s [c]) ∧ ∀ a b, a ≠ 137 → ¬ (a = 129 ∧ b = 8) → A' a b = A a b := by
    intro c tl hc hk hT
    refine ⟨A, c, c, tl, hT, ?_, by omega, ?_, ?_, fun _ _ _ _ => rfl⟩
    · unfold mX4_codeOf mX4_codeOf_b0
      rw [if_neg (nlt0 (by omega)), show (2600 : Int32) = nI 2600 from rfl, if_pos (by rw [nlt (by omega) (by omega)]; omega), gin (by omega) (by omega), if_pos rfl, ncl (by omega), hk, show (4 : Int32) = nI 4 from rfl, if_neg (by rw [neq (by omega) (by omega)]; omega), if_pos rfl]
    · rw [num_cons, if_pos (Or.inl (by omega))]; rfl
    · rw [seats_cons, if_pos (Or.inl (by omega))]; exact hs
  rcases sN_kind (h.2.2.2.1 n hn) h5 with ⟨h2, hk, hT⟩ | ⟨h2, hk, hT⟩ | ⟨h2, c, i, j, hc, hi, hj, hk, -, -, hT⟩
  · exact low (by omega) hk hT
  · have e : mX4_codeOf A (nI n) = (if A 133 n = A 129 10 then (mX4_codeOfNode A (nI n)).bind fun q8 => mX4_codeOf_b59 q8.1 q8.2 else (mX4_seatOf A (nI n)).bind fun q7 => mX4_codeOf_b59 q7.1 (10 + q7.2)) := by
      unfold mX4_codeOf mX4_codeOf_b0
      rw [if_neg (nlt0 (by omega)), show (2600 : Int32) = nI 2600 from rfl, if_pos (by rw [nlt (by omega) (by omega)]; omega), gin (by omega) (by omega), if_pos rfl, ncl (by omega), hk, show (4 : Int32) = nI 4 from rfl, if_pos rfl, if_pos rfl]
    by_cases m : A 133 n = A 129 10
    · refine ⟨A, 100 + n, 100 + n, [], hT, ?_, by omega, ?_, ?_, fun _ _ _ _ => rfl⟩
      · rw [e, if_pos m]
        show some (A, (100 : Int32) + nI n) = _
        rw [show (100 : Int32) = nI 100 from rfl, nI_add]
      · rw [num_cons, if_pos (Or.inr (kp_v.mpr m))]; rfl
      · rw [seats_cons, if_pos (Or.inr (kp_v.mpr m))]; exact hs
    · obtain ⟨A', k, ho, hk6, hs', hkk, hfr⟩ := seatOf_ok (v := n) hs (by omega) hl
      have nk : ¬ (100 + n < 10 ∨ kp A (100 + n) = true) := by
        rintro (z | z)
        · omega
        · exact m (kp_v.mp z)
      refine ⟨A', 10 + k, 100 + n, [], hT, ?_, by omega, ?_, ?_, hfr⟩
      · rw [e, if_neg m, ho]
        show some (A', (10 : Int32) + nI k) = _
        rw [show (10 : Int32) = nI 10 from rfl, nI_add]
      · rw [num_cons, if_neg nk, hkk]
        by_cases q : 100 + n ∈ s
        · rw [if_pos q, if_pos q]; rfl
        · rw [if_neg q, if_neg q]; rfl
      · rw [seats_cons, if_neg nk]
        by_cases q : 100 + n ∈ s
        · rw [if_pos q] at hs' ⊢; exact hs'
        · rw [if_neg q] at hs' ⊢; exact hs'
  · exact low (by omega) hk hT
