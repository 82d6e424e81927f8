/-! RENAMING OF VARIABLES -/
def rn (ρ : Nat → Nat) (r : Rw) : Rw := r.map ρ
def Ren (ρ : Nat → Nat) (S : Nat → Prop) : Prop := (∀ c, c < 10 → ρ c = c) ∧ (∀ c, 10 ≤ c → 10 ≤ ρ c) ∧ ∀ x y, S x → S y → ρ x = ρ y → x = y
theorem Ren.low {ρ : Nat → Nat} {S : Nat → Prop} (h : Ren ρ S) : ∀ c, c < 10 → ρ c = c := h.1
theorem Ren.high {ρ : Nat → Nat} {S : Nat → Prop} (h : Ren ρ S) : ∀ c, 10 ≤ c → 10 ≤ ρ c := h.2.1
theorem Ren.inj {ρ : Nat → Nat} {S : Nat → Prop} (h : Ren ρ S) : ∀ x y, S x → S y → ρ x = ρ y → x = y := h.2.2
theorem rn_nil {ρ : Nat → Nat} : rn ρ [] = [] := rfl
theorem rn_cons {ρ : Nat → Nat} {c : Nat} {r : Rw} : rn ρ (c :: r) = ρ c :: rn ρ r := rfl
theorem rn_app {ρ : Nat → Nat} {a b : Rw} : rn ρ (a ++ b) = rn ρ a ++ rn ρ b := List.map_append
theorem rn_len {ρ : Nat → Nat} {a : Rw} : (rn ρ a).length = a.length := List.length_map ρ
theorem rn_mem {ρ : Nat → Nat} {x : Nat} {r : Rw} : x ∈ rn ρ r ↔ ∃ y ∈ r, ρ y = x := List.mem_map
theorem rn_ar {ρ : Nat → Nat} {S : Nat → Prop} (h : Ren ρ S) (c : Nat) : ar (ρ c) = ar c := by
  by_cases q : c < 10
  · rw [h.low c q]
  · have := h.high c (by omega)
    unfold ar; rw [if_neg (by omega), if_neg (by omega)]
theorem rn_tk {ρ : Nat → Nat} {S : Nat → Prop} (h : Ren ρ S) : ∀ (r : Rw) (k : Nat), tk k (rn ρ r) = tk k r
  | [], k => by cases k <;> rfl
  | c :: r, 0 => rfl
  | c :: r, k + 1 => by
    show tk (k + ar (ρ c)) (rn ρ r) = tk (k + ar c) r
    rw [rn_ar h]; exact rn_tk h r _
theorem rn_Ty {ρ : Nat → Nat} {S : Nat → Prop} (h : Ren ρ S) {r : Rw} : Ty (rn ρ r) ↔ Ty r := by
  unfold Ty; rw [rn_tk h]
theorem rn_cut {ρ : Nat → Nat} {S : Nat → Prop} (h : Ren ρ S) : ∀ (r : Rw) (k : Nat), cutn k (rn ρ r) = (rn ρ (cutn k r).1, rn ρ (cutn k r).2)
  | r, 0 => by cases r <;> rfl
  | [], _ + 1 => rfl
  | c :: r, k + 1 => by
    show (ρ c :: (cutn (k + ar (ρ c)) (rn ρ r)).1, (cutn (k + ar (ρ c)) (rn ρ r)).2) = (ρ c :: rn ρ (cutn (k + ar c) r).1, rn ρ (cutn (k + ar c) r).2)
    rw [rn_ar h, rn_cut h r]
theorem rn_inj {ρ : Nat → Nat} {S : Nat → Prop} (h : Ren ρ S) : ∀ {a b : Rw}, (∀ x ∈ a, S x) → (∀ x ∈ b, S x) → rn ρ a = rn ρ b → a = b
  | [], [], _, _, _ => rfl
  | [], _ :: _, _, _, e => by cases e
  | _ :: _, [], _, _, e => by cases e
  | x :: a, y :: b, ha, hb, e => by
    have e1 := List.cons.inj e
    rw [h.inj x y (ha x List.mem_cons_self) (hb y List.mem_cons_self) e1.1, rn_inj h (fun z hz => ha z (List.mem_cons_of_mem _ hz)) (fun z hz => hb z (List.mem_cons_of_mem _ hz)) e1.2]
theorem rn_in {ρ : Nat → Nat} {S : Nat → Prop} (h : Ren ρ S) {x : Nat} {r : Rw} (hx : S x) (hr : ∀ y ∈ r, S y) : ρ x ∈ rn ρ r ↔ x ∈ r := by
  constructor
  · intro q
    obtain ⟨y, hy, e⟩ := rn_mem.mp q
    rw [← h.inj y x (hr y hy) hx e]; exact hy
  · intro q; exact rn_mem.mpr ⟨x, q, rfl⟩
theorem rn_sb {ρ : Nat → Nat} {S : Nat → Prop} (h : Ren ρ S) {v : Nat} {t : Rw} (hv : S v) : ∀ {r : Rw}, (∀ y ∈ r, S y) → sb (ρ v) (rn ρ t) (rn ρ r) = rn ρ (sb v t r)
  | [], _ => rfl
  | c :: r, hr => by
    rw [rn_cons, sb_cons, sb_cons, rn_app, rn_sb h hv fun y hy => hr y (List.mem_cons_of_mem _ hy)]
    by_cases e : c = v
    · rw [if_pos e, if_pos (by rw [e])]
    · rw [if_neg e, if_neg (fun q => e (h.inj c v (hr c List.mem_cons_self) hv q))]; rfl
def rnB (ρ : Nat → Nat) (bs : List (Nat × Rw)) : List (Nat × Rw) := bs.map fun q => (ρ q.1, rn ρ q.2)
def inB (S : Nat → Prop) (bs : List (Nat × Rw)) : Prop := ∀ q ∈ bs, S q.1 ∧ ∀ x ∈ q.2, S x
theorem rn_apL {ρ : Nat → Nat} {S : Nat → Prop} (h : Ren ρ S) : ∀ {bs : List (Nat × Rw)} {r : Rw}, inB S bs → (∀ y ∈ r, S y) → apL (rnB ρ bs) (rn ρ r) = rn ρ (apL bs r)
  | [], r, _, _ => rfl
  | q :: bs, r, hb, hr => by
    show apL (rnB ρ bs) (sb (ρ q.1) (rn ρ q.2) (rn ρ r)) = rn ρ (apL bs (sb q.1 q.2 r))
    rw [rn_sb h (hb q List.mem_cons_self).1 hr]
    refine rn_apL h (fun z hz => hb z (List.mem_cons_of_mem _ hz)) fun y hy => ?_
    rcases sb_mem.mp hy with ⟨h1, -⟩ | ⟨-, h1⟩
    · exact hr y h1
    · exact (hb q List.mem_cons_self).2 y h1
def rnR (ρ : Nat → Nat) : Nat ⊕ List (Nat × Rw) → Nat ⊕ List (Nat × Rw)
  | .inl n => .inl n
  | .inr bs => .inr (rnB ρ bs)
theorem rnB_app {ρ : Nat → Nat} {a b : List (Nat × Rw)} : rnB ρ (a ++ b) = rnB ρ a ++ rnB ρ b := List.map_append
theorem U_inB {S : Nat → Prop} {f : Nat} {a b : Rw} {bs : List (Nat × Rw)} (ha : ∀ y ∈ a, S y) (hb : ∀ y ∈ b, S y) (h : U f a b = some (.inr bs)) : inB S bs := fun q hq =>
  ⟨(U_mem f h q hq).1.elim (ha _) (hb _), fun x hx => ((U_mem f h q hq).2 x hx).elim (ha x) (hb x)⟩
/-- U answers the same of renamed rows, renamed -/
theorem U_rn {ρ : Nat → Nat} {S : Nat → Prop} (h : Ren ρ S) : ∀ (f : Nat) {a b : Rw} {res : Nat ⊕ List (Nat × Rw)}, (∀ y ∈ a, S y) → (∀ y ∈ b, S y) → U f a b = some res → U f (rn ρ a) (rn ρ b) = some (rnR ρ res)
  | 0, a, b, res, _, _, q => by cases q
  | f + 1, a, b, res, ha, hb, q => by
    rcases U_cases q with ⟨e0, e⟩ | ⟨x, a', y, b', rfl, rfl, hne, hc⟩
    · subst e0; subst e; unfold U; rw [if_pos rfl]; rfl
    · have hne' : rn ρ (x :: a') ≠ rn ρ (y :: b') := fun e => hne (rn_inj h ha hb e)
      have hxS := ha x List.mem_cons_self
      have hyS := hb y List.mem_cons_self
      unfold U
      rw [if_neg hne']
      dsimp only [rn_cons]
      rcases hc with ⟨hx, hm, e⟩ | ⟨hx, hm, e⟩ | ⟨hx, hy, hm, e⟩ | ⟨hx, hy, hm, e⟩ | ⟨hx, hy, hxy, e⟩ | ⟨hx, hy, rfl, hc⟩
      · rw [if_pos (h.high x hx), if_pos (show ρ x ∈ ρ y :: rn ρ b' from (rn_in h hxS hb).mpr hm), e]; rfl
      · rw [if_pos (h.high x hx), if_neg (show ρ x ∉ ρ y :: rn ρ b' from fun z => hm ((rn_in h hxS hb).mp z)), e]; rfl
      · rw [if_neg (by rw [h.low x hx]; omega), if_pos (h.high y hy), if_pos (show ρ y ∈ ρ x :: rn ρ a' from (rn_in h hyS ha).mpr hm), e]; rfl
      · rw [if_neg (by rw [h.low x hx]; omega), if_pos (h.high y hy), if_neg (show ρ y ∉ ρ x :: rn ρ a' from fun z => hm ((rn_in h hyS ha).mp z)), e]; rfl
      · rw [if_neg (by rw [h.low x hx]; omega), if_neg (by rw [h.low y hy]; omega), if_pos (by rw [h.low x hx, h.low y hy]; exact hxy), e]; rfl
      · rw [if_neg (by rw [h.low x hx]; omega), if_neg (by rw [h.low x hx]; omega), if_neg (fun z => z rfl), rn_cut h, rn_cut h]
        have a1 : ∀ z ∈ (cutn 1 a').1, S z := fun z hz => ha z (List.mem_cons_of_mem _ (cutn_mem (Or.inl hz)))
        have a2 : ∀ z ∈ (cutn 1 a').2, S z := fun z hz => ha z (List.mem_cons_of_mem _ (cutn_mem (Or.inr hz)))
        have b1 : ∀ z ∈ (cutn 1 b').1, S z := fun z hz => hb z (List.mem_cons_of_mem _ (cutn_mem (Or.inl hz)))
        have b2 : ∀ z ∈ (cutn 1 b').2, S z := fun z hz => hb z (List.mem_cons_of_mem _ (cutn_mem (Or.inr hz)))
        rcases hc with ⟨n, h1, e⟩ | ⟨s1, h1, hc⟩
        · rw [U_rn h f a1 b1 h1, e]; rfl
        · rw [U_rn h f a1 b1 h1]
          have i1 := U_inB a1 b1 h1
          have ap : ∀ {r : Rw}, (∀ z ∈ r, S z) → ∀ z ∈ apL s1 r, S z := fun hr z hz => (apL_mem hz).elim (hr z) fun ⟨w, hw, hz⟩ => (i1 w hw).2 z hz
          dsimp only [rnR]
          rw [rn_apL h i1 a2, rn_apL h i1 b2]
          rcases hc with ⟨n, h2, e⟩ | ⟨s2, h2, e⟩
          · rw [U_rn h f (ap a2) (ap b2) h2, e]; rfl
          · rw [U_rn h f (ap a2) (ap b2) h2, e]
            dsimp only [rnR]
            rw [rnB_app]
