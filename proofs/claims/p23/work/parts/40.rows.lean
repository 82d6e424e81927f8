/-! ROWS OF TYPES: 0 weight, 1 flag, 2 and 3 pairs with both their types behind them, 10 and more variables -/
abbrev Rw : Type := List Nat
def ar (c : Nat) : Nat := if c = 2 ∨ c = 3 then 2 else 0
/-- how many types are still wanted behind r, of k wanted ahead of it -/
def tk : Nat → Rw → Option Nat
  | k, [] => some k
  | 0, _ :: _ => none
  | k + 1, c :: r => tk (k + ar c) r
def Ty (r : Rw) : Prop := tk 1 r = some 0
theorem tk_app : ∀ (a b : Rw) (k : Nat), tk k (a ++ b) = (tk k a).bind fun j => tk j b
  | [], b, k => by simp [tk]
  | c :: a, b, 0 => by simp [tk]
  | c :: a, b, k + 1 => by
    show tk (k + ar c) (a ++ b) = (tk (k + ar c) a).bind _
    exact tk_app a b (k + ar c)
theorem tk_add : ∀ (a : Rw) (k m j : Nat), tk k a = some j → tk (k + m) a = some (j + m)
  | [], k, m, j, h => by simp [tk] at h ⊢; omega
  | c :: a, 0, m, j, h => by simp [tk] at h
  | c :: a, k + 1, m, j, h => by
    have h1 : tk (k + ar c) a = some j := h
    have := tk_add a (k + ar c) m j h1
    rw [show k + 1 + m = (k + m) + 1 by omega]
    show tk (k + m + ar c) a = _
    rw [show k + m + ar c = k + ar c + m by omega]
    exact this
theorem Ty_tk {a : Rw} (h : Ty a) (m : Nat) : tk (m + 1) a = some m := by
  have := tk_add a 1 m 0 h
  rw [Nat.add_comm m 1, this, Nat.zero_add]
theorem Ty_app {a : Rw} (h : Ty a) (b : Rw) (m : Nat) : tk (m + 1) (a ++ b) = tk m b := by
  rw [tk_app, Ty_tk h]; rfl
theorem Ty_ne {a : Rw} (h : Ty a) : a ≠ [] := fun e => by subst e; simp [Ty, tk] at h
theorem Ty_leaf {c : Nat} (h : ar c = 0) : Ty [c] := by simp [Ty, tk, h]
theorem Ty_pair {c : Nat} {a b : Rw} (h : ar c = 2) (ha : Ty a) (hb : Ty b) : Ty (c :: (a ++ b)) := by
  show tk (0 + ar c) (a ++ b) = some 0
  rw [h]
  show tk (1 + 1) (a ++ b) = some 0
  rw [Ty_app ha]; exact hb
/-- the first type of a row, and what is behind it -/
def cutn : Nat → Rw → Rw × Rw
  | 0, r => ([], r)
  | _ + 1, [] => ([], [])
  | k + 1, c :: r => (c :: (cutn (k + ar c) r).1, (cutn (k + ar c) r).2)
theorem cutn_app : ∀ (a b : Rw) (k : Nat), tk k a = some 0 → cutn k (a ++ b) = (a, b)
  | [], b, k, h => by
    have : k = 0 := by simpa [tk] using h
    subst this; cases b <;> rfl
  | c :: a, b, 0, h => by simp [tk] at h
  | c :: a, b, k + 1, h => by
    have h1 : tk (k + ar c) a = some 0 := h
    show (c :: (cutn (k + ar c) (a ++ b)).1, (cutn (k + ar c) (a ++ b)).2) = _
    rw [cutn_app a b _ h1]
theorem Ty_cut {a : Rw} (h : Ty a) (b : Rw) : cutn 1 (a ++ b) = (a, b) := cutn_app a b 1 h
theorem Ty_inj {a b s t : Rw} (ha : Ty a) (hb : Ty b) (h : a ++ s = b ++ t) : a = b ∧ s = t := by
  have h1 := Ty_cut ha s
  rw [h, Ty_cut hb] at h1
  exact ⟨(Prod.mk.inj h1).1.symm, (Prod.mk.inj h1).2.symm⟩
theorem tk_split : ∀ (n : Nat) (r : Rw) (k : Nat), r.length ≤ n → tk (k + 1) r = some 0 → ∃ a s, r = a ++ s ∧ Ty a ∧ tk k s = some 0
  | n, [], k, _, h => by simp [tk] at h
  | 0, c :: r, k, hl, _ => by simp at hl
  | n + 1, c :: r, k, hl, h => by
    have hl : r.length ≤ n := by simpa using hl
    have h1 : tk (k + ar c) r = some 0 := h
    by_cases q : c = 2 ∨ c = 3
    · have ha : ar c = 2 := if_pos q
      rw [ha] at h1
      obtain ⟨a1, s1, rfl, t1, k1⟩ := tk_split n r (k + 1) hl h1
      obtain ⟨a2, s2, rfl, t2, k2⟩ := tk_split n s1 k (by simp at hl; omega) k1
      exact ⟨c :: (a1 ++ a2), s2, by simp, Ty_pair ha t1 t2, k2⟩
    · have ha : ar c = 0 := if_neg q
      rw [ha] at h1
      exact ⟨[c], r, rfl, Ty_leaf ha, h1⟩
/-- a type is a leaf or a pair of types -/
theorem Ty_cases {r : Rw} (h : Ty r) : (∃ c, ar c = 0 ∧ r = [c]) ∨ ∃ c a b, ar c = 2 ∧ Ty a ∧ Ty b ∧ r = c :: (a ++ b) := by
  cases r with
  | nil => exact absurd rfl (Ty_ne h)
  | cons c r =>
    have h1 : tk (0 + ar c) r = some 0 := h
    by_cases q : c = 2 ∨ c = 3
    · have ha : ar c = 2 := if_pos q
      rw [ha] at h1
      obtain ⟨a, s, rfl, t1, k1⟩ := tk_split _ r 1 (Nat.le_refl _) h1
      exact Or.inr ⟨c, a, s, ha, t1, k1, rfl⟩
    · have ha : ar c = 0 := if_neg q
      rw [ha] at h1
      cases r with
      | nil => exact Or.inl ⟨c, ha, rfl⟩
      | cons d r => simp [tk] at h1
/-- substitution of a type for a variable -/
def sb (v : Nat) (t : Rw) (r : Rw) : Rw := r.flatMap fun c => if c = v then t else [c]
theorem sb_nil {v : Nat} {t : Rw} : sb v t [] = [] := rfl
theorem sb_cons {v c : Nat} {t r : Rw} : sb v t (c :: r) = (if c = v then t else [c]) ++ sb v t r := by simp [sb]
theorem sb_app {v : Nat} {t a b : Rw} : sb v t (a ++ b) = sb v t a ++ sb v t b := by simp [sb]
theorem sb_one {v : Nat} {t : Rw} : sb v t [v] = t := by simp [sb]
theorem sb_ne {v c : Nat} {t : Rw} (h : c ≠ v) : sb v t [c] = [c] := by simp [sb, h]
theorem sb_not {v : Nat} {t : Rw} : ∀ {r : Rw}, v ∉ r → sb v t r = r
  | [], _ => rfl
  | c :: r, h => by
    rw [sb_cons, if_neg (fun e => h (by rw [e]; exact List.mem_cons_self)), sb_not (fun e => h (List.mem_cons_of_mem _ e))]
    rfl
theorem sb_mem {v x : Nat} {t r : Rw} : x ∈ sb v t r ↔ (x ∈ r ∧ x ≠ v) ∨ (v ∈ r ∧ x ∈ t) := by
  unfold sb
  rw [List.mem_flatMap]
  constructor
  · rintro ⟨c, hc, hx⟩
    by_cases e : c = v
    · rw [if_pos e] at hx; exact Or.inr ⟨e ▸ hc, hx⟩
    · rw [if_neg e] at hx
      have : x = c := by simpa using hx
      subst this; exact Or.inl ⟨hc, e⟩
  · rintro (⟨h1, h2⟩ | ⟨h1, h2⟩)
    · exact ⟨x, h1, by rw [if_neg h2]; exact List.mem_singleton.mpr rfl⟩
    · exact ⟨v, h1, by rw [if_pos rfl]; exact h2⟩
theorem tk_sb {v : Nat} {t : Rw} (hv : 10 ≤ v) (ht : Ty t) : ∀ (r : Rw) (k j : Nat), tk k r = some j → tk k (sb v t r) = some j
  | [], k, j, h => h
  | c :: r, 0, j, h => by simp [tk] at h
  | c :: r, k + 1, j, h => by
    have h1 : tk (k + ar c) r = some j := h
    rw [sb_cons]
    by_cases e : c = v
    · rw [if_pos e, Ty_app ht]
      have : ar c = 0 := if_neg (by omega)
      rw [this] at h1
      exact tk_sb hv ht r k j h1
    · rw [if_neg e]
      show tk (k + ar c) (sb v t r) = some j
      exact tk_sb hv ht r _ j h1
theorem Ty_sb {v : Nat} {t r : Rw} (hv : 10 ≤ v) (ht : Ty t) (h : Ty r) : Ty (sb v t r) := tk_sb hv ht r 1 0 h
/-- one substitution behind another -/
def apL : List (Nat × Rw) → Rw → Rw
  | [], r => r
  | q :: bs, r => apL bs (sb q.1 q.2 r)
theorem apL_nil {bs : List (Nat × Rw)} : apL bs [] = [] := by
  induction bs with
  | nil => rfl
  | cons q bs ih => exact ih
theorem apL_app2 {bs : List (Nat × Rw)} : ∀ {a b : Rw}, apL bs (a ++ b) = apL bs a ++ apL bs b := by
  induction bs with
  | nil => intros; rfl
  | cons q bs ih => intro a b; show apL bs (sb q.1 q.2 (a ++ b)) = _; rw [sb_app, ih]; rfl
theorem apL_comp {b1 b2 : List (Nat × Rw)} : ∀ {r : Rw}, apL (b1 ++ b2) r = apL b2 (apL b1 r) := by
  induction b1 with
  | nil => intros; rfl
  | cons q bs ih => intro r; exact ih
/-- what is bound are variables, by types -/
def okB (bs : List (Nat × Rw)) : Prop := ∀ q ∈ bs, 10 ≤ q.1 ∧ Ty q.2
theorem apL_low {bs : List (Nat × Rw)} (h : okB bs) {c : Nat} (hc : c < 10) : apL bs [c] = [c] := by
  induction bs with
  | nil => rfl
  | cons q bs ih =>
    show apL bs (sb q.1 q.2 [c]) = _
    rw [sb_ne (by have := (h q List.mem_cons_self).1; omega)]
    exact ih fun z hz => h z (List.mem_cons_of_mem _ hz)
theorem apL_cons {bs : List (Nat × Rw)} (h : okB bs) {c : Nat} {r : Rw} (hc : c < 10) : apL bs (c :: r) = c :: apL bs r := by
  rw [show c :: r = [c] ++ r from rfl, apL_app2, apL_low h hc]; rfl
theorem apL_Ty {bs : List (Nat × Rw)} (h : okB bs) : ∀ {r : Rw}, Ty r → Ty (apL bs r) := by
  induction bs with
  | nil => intro r hr; exact hr
  | cons q bs ih => intro r hr; exact ih (fun z hz => h z (List.mem_cons_of_mem _ hz)) (Ty_sb (h q List.mem_cons_self).1 (h q List.mem_cons_self).2 hr)
/-- two types are made the same: none without fuel; a fault, or what is given to variables -/
def U : Nat → Rw → Rw → Option (Nat ⊕ List (Nat × Rw))
  | 0, _, _ => none
  | f + 1, a, b => if a = b then some (.inr []) else
    match a, b with
    | x :: a', y :: b' =>
      if 10 ≤ x then (if x ∈ y :: b' then some (.inl 3) else some (.inr [(x, y :: b')]))
      else if 10 ≤ y then (if y ∈ x :: a' then some (.inl 3) else some (.inr [(y, x :: a')]))
      else if x ≠ y then some (.inl 2)
      else match U f (cutn 1 a').1 (cutn 1 b').1 with
        | some (.inr bs) => match U f (apL bs (cutn 1 a').2) (apL bs (cutn 1 b').2) with
          | some (.inr bs2) => some (.inr (bs ++ bs2))
          | r => r
        | r => r
    | _, _ => none
