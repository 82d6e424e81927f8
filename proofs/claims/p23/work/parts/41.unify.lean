/-! WHAT U ANSWERS -/
theorem cutn_cat : ∀ (r : Rw) (k : Nat), (cutn k r).1 ++ (cutn k r).2 = r
  | r, 0 => by cases r <;> rfl
  | [], _ + 1 => rfl
  | c :: r, k + 1 => by
    show c :: ((cutn (k + ar c) r).1 ++ (cutn (k + ar c) r).2) = _
    rw [cutn_cat r]
theorem cutn_mem {r : Rw} {k x : Nat} (h : x ∈ (cutn k r).1 ∨ x ∈ (cutn k r).2) : x ∈ r := by
  rw [← cutn_cat r k]; exact List.mem_append.mpr h
/-- U's cases, from its answer -/
theorem U_cases {f : Nat} {a b : Rw} {res : Nat ⊕ List (Nat × Rw)} (h : U (f + 1) a b = some res) :
    (a = b ∧ res = .inr []) ∨ ∃ x a' y b', a = x :: a' ∧ b = y :: b' ∧ a ≠ b ∧
      ((10 ≤ x ∧ x ∈ b ∧ res = .inl 3) ∨ (10 ≤ x ∧ x ∉ b ∧ res = .inr [(x, b)]) ∨ (x < 10 ∧ 10 ≤ y ∧ y ∈ a ∧ res = .inl 3) ∨ (x < 10 ∧ 10 ≤ y ∧ y ∉ a ∧ res = .inr [(y, a)]) ∨
       (x < 10 ∧ y < 10 ∧ x ≠ y ∧ res = .inl 2) ∨
       (x < 10 ∧ y < 10 ∧ x = y ∧ ((∃ n, U f (cutn 1 a').1 (cutn 1 b').1 = some (.inl n) ∧ res = .inl n) ∨
         ∃ bs, U f (cutn 1 a').1 (cutn 1 b').1 = some (.inr bs) ∧ ((∃ n, U f (apL bs (cutn 1 a').2) (apL bs (cutn 1 b').2) = some (.inl n) ∧ res = .inl n) ∨ ∃ bs2, U f (apL bs (cutn 1 a').2) (apL bs (cutn 1 b').2) = some (.inr bs2) ∧ res = .inr (bs ++ bs2))))) := by
  unfold U at h
  by_cases e : a = b
  · rw [if_pos e] at h; exact Or.inl ⟨e, (Option.some.inj h).symm⟩
  · rw [if_neg e] at h
    refine Or.inr ?_
    cases a with
    | nil => cases h
    | cons x a' =>
      cases b with
      | nil => cases h
      | cons y b' =>
        refine ⟨x, a', y, b', rfl, rfl, e, ?_⟩
        dsimp only at h
        by_cases hx : 10 ≤ x
        · rw [if_pos hx] at h
          by_cases hm : x ∈ y :: b'
          · rw [if_pos hm] at h; exact Or.inl ⟨hx, hm, (Option.some.inj h).symm⟩
          · rw [if_neg hm] at h; exact Or.inr (Or.inl ⟨hx, hm, (Option.some.inj h).symm⟩)
        · rw [if_neg hx] at h
          by_cases hy : 10 ≤ y
          · rw [if_pos hy] at h
            by_cases hm : y ∈ x :: a'
            · rw [if_pos hm] at h; exact Or.inr (Or.inr (Or.inl ⟨by omega, hy, hm, (Option.some.inj h).symm⟩))
            · rw [if_neg hm] at h; exact Or.inr (Or.inr (Or.inr (Or.inl ⟨by omega, hy, hm, (Option.some.inj h).symm⟩)))
          · rw [if_neg hy] at h
            by_cases hxy : x = y
            · rw [if_neg (fun q => q hxy)] at h
              refine Or.inr (Or.inr (Or.inr (Or.inr (Or.inr ⟨by omega, by omega, hxy, ?_⟩))))
              cases hu : U f (cutn 1 a').1 (cutn 1 b').1 with
              | none => rw [hu] at h; cases h
              | some r1 =>
                rw [hu] at h
                cases r1 with
                | inl n => exact Or.inl ⟨n, rfl, (Option.some.inj h).symm⟩
                | inr bs =>
                  refine Or.inr ⟨bs, rfl, ?_⟩
                  dsimp only at h
                  cases hu2 : U f (apL bs (cutn 1 a').2) (apL bs (cutn 1 b').2) with
                  | none => rw [hu2] at h; cases h
                  | some r2 =>
                    rw [hu2] at h
                    cases r2 with
                    | inl n => exact Or.inl ⟨n, rfl, (Option.some.inj h).symm⟩
                    | inr bs2 => exact Or.inr ⟨bs2, rfl, (Option.some.inj h).symm⟩
            · rw [if_pos hxy] at h
              exact Or.inr (Or.inr (Or.inr (Or.inr (Or.inl ⟨by omega, by omega, hxy, (Option.some.inj h).symm⟩))))
theorem apL_mem {bs : List (Nat × Rw)} : ∀ {r : Rw} {x : Nat}, x ∈ apL bs r → x ∈ r ∨ ∃ q ∈ bs, x ∈ q.2 := by
  induction bs with
  | nil => intro r x h; exact Or.inl h
  | cons q bs ih =>
    intro r x h
    rcases ih h with h | ⟨z, hz, hx⟩
    · rcases sb_mem.mp h with ⟨h1, -⟩ | ⟨-, h1⟩
      · exact Or.inl h1
      · exact Or.inr ⟨q, List.mem_cons_self, h1⟩
    · exact Or.inr ⟨z, List.mem_cons_of_mem _ hz, hx⟩
/-- all codes of what is given, and what is given a type, are codes of the two rows -/
theorem U_mem : ∀ (f : Nat) {a b : Rw} {bs : List (Nat × Rw)}, U f a b = some (.inr bs) → ∀ q ∈ bs, (q.1 ∈ a ∨ q.1 ∈ b) ∧ ∀ x ∈ q.2, x ∈ a ∨ x ∈ b
  | 0, a, b, bs, h => by cases h
  | f + 1, a, b, bs, h => by
    rcases U_cases h with ⟨-, e⟩ | ⟨x, a', y, b', rfl, rfl, -, hc⟩
    · cases e; intro q hq; cases hq
    · rcases hc with ⟨-, -, e⟩ | ⟨-, -, e⟩ | ⟨-, -, -, e⟩ | ⟨-, -, -, e⟩ | ⟨-, -, -, e⟩ | ⟨-, -, -, hc⟩
      · cases e
      · cases e; intro q hq
        rw [List.mem_singleton] at hq; subst hq
        exact ⟨Or.inl List.mem_cons_self, fun z hz => Or.inr hz⟩
      · cases e
      · cases e; intro q hq
        rw [List.mem_singleton] at hq; subst hq
        exact ⟨Or.inr List.mem_cons_self, fun z hz => Or.inl hz⟩
      · cases e
      · rcases hc with ⟨n, -, e⟩ | ⟨b1, h1, hc⟩
        · cases e
        · rcases hc with ⟨n, -, e⟩ | ⟨b2, h2, e⟩
          · cases e
          · cases e
            have i1 := U_mem f h1
            have i2 := U_mem f h2
            have up : ∀ z, (z ∈ (cutn 1 a').1 ∨ z ∈ (cutn 1 b').1) → (z ∈ x :: a' ∨ z ∈ y :: b') := fun z hz => hz.elim (fun h => Or.inl (List.mem_cons_of_mem _ (cutn_mem (Or.inl h)))) (fun h => Or.inr (List.mem_cons_of_mem _ (cutn_mem (Or.inl h))))
            have up2 : ∀ z, (z ∈ apL b1 (cutn 1 a').2 ∨ z ∈ apL b1 (cutn 1 b').2) → (z ∈ x :: a' ∨ z ∈ y :: b') := by
              intro z hz
              rcases hz with hz | hz
              · rcases apL_mem hz with hz | ⟨q, hq, hz⟩
                · exact Or.inl (List.mem_cons_of_mem _ (cutn_mem (Or.inr hz)))
                · exact up z ((i1 q hq).2 z hz)
              · rcases apL_mem hz with hz | ⟨q, hq, hz⟩
                · exact Or.inr (List.mem_cons_of_mem _ (cutn_mem (Or.inr hz)))
                · exact up z ((i1 q hq).2 z hz)
            intro q hq
            rcases List.mem_append.mp hq with hq | hq
            · exact ⟨up _ (i1 q hq).1, fun z hz => up z ((i1 q hq).2 z hz)⟩
            · exact ⟨up2 _ (i2 q hq).1, fun z hz => up2 z ((i2 q hq).2 z hz)⟩
theorem ar_low {c : Nat} (h : ar c = 2) : c = 2 ∨ c = 3 := by
  unfold ar at h
  by_cases q : c = 2 ∨ c = 3
  · exact q
  · rw [if_neg q] at h; cases h
theorem Ty_var {x : Nat} {r : Rw} (h : Ty (x :: r)) (hx : 10 ≤ x) : r = [] := by
  rcases Ty_cases h with ⟨c, -, e⟩ | ⟨c, a, b, hc, -, -, e⟩
  · exact (List.cons.inj e).2
  · have := (List.cons.inj e).1; have := ar_low hc; omega
/-- two unequal types with the same low head are pairs -/
theorem Ty_two {x : Nat} {a' b' : Rw} (ha : Ty (x :: a')) (hb : Ty (x :: b')) (hne : x :: a' ≠ x :: b') : ∃ a1 a2 b1 b2, ar x = 2 ∧ Ty a1 ∧ Ty a2 ∧ Ty b1 ∧ Ty b2 ∧ a' = a1 ++ a2 ∧ b' = b1 ++ b2 ∧ cutn 1 a' = (a1, a2) ∧ cutn 1 b' = (b1, b2) := by
  rcases Ty_cases ha with ⟨c, hc, e⟩ | ⟨c, a1, a2, hc, t1, t2, e⟩
  · rcases Ty_cases hb with ⟨d, hd, e2⟩ | ⟨d, b1, b2, hd, -, -, e2⟩
    · have h1 := (List.cons.inj e).2; have h2 := (List.cons.inj e2).2
      rw [h1, h2] at hne; exact absurd rfl hne
    · have h1 := (List.cons.inj e).1; have h2 := (List.cons.inj e2).1
      rw [← h1] at hc; rw [← h2, hc] at hd; cases hd
  · rcases Ty_cases hb with ⟨d, hd, e2⟩ | ⟨d, b1, b2, hd, t3, t4, e2⟩
    · have h1 := (List.cons.inj e).1; have h2 := (List.cons.inj e2).1
      rw [← h1] at hc; rw [← h2, hc] at hd; cases hd
    · have h1 := (List.cons.inj e); have h2 := (List.cons.inj e2)
      refine ⟨a1, a2, b1, b2, by rw [h1.1]; exact hc, t1, t2, t3, t4, h1.2, h2.2, ?_, ?_⟩
      · rw [h1.2]; exact Ty_cut t1 a2
      · rw [h2.2]; exact Ty_cut t3 b2
theorem U_okB : ∀ (f : Nat) {a b : Rw} {bs : List (Nat × Rw)}, Ty a → Ty b → U f a b = some (.inr bs) → okB bs
  | 0, a, b, bs, _, _, h => by cases h
  | f + 1, a, b, bs, ha, hb, h => by
    rcases U_cases h with ⟨-, e⟩ | ⟨x, a', y, b', rfl, rfl, hne, hc⟩
    · cases e; intro q hq; cases hq
    · rcases hc with ⟨-, -, e⟩ | ⟨hx, -, e⟩ | ⟨-, -, -, e⟩ | ⟨-, hy, -, e⟩ | ⟨-, -, -, e⟩ | ⟨-, -, rfl, hc⟩
      · cases e
      · cases e; intro q hq
        rw [List.mem_singleton] at hq; subst hq; exact ⟨hx, hb⟩
      · cases e
      · cases e; intro q hq
        rw [List.mem_singleton] at hq; subst hq; exact ⟨hy, ha⟩
      · cases e
      · obtain ⟨a1, a2, b1, b2, -, t1, t2, t3, t4, -, -, c1, c2⟩ := Ty_two ha hb hne
        rw [c1, c2] at hc
        rcases hc with ⟨n, -, e⟩ | ⟨s1, h1, hc⟩
        · cases e
        · have o1 := U_okB f t1 t3 h1
          rcases hc with ⟨n, -, e⟩ | ⟨s2, h2, e⟩
          · cases e
          · cases e
            have o2 := U_okB f (apL_Ty o1 t2) (apL_Ty o1 t4) h2
            intro q hq
            rcases List.mem_append.mp hq with hq | hq
            · exact o1 q hq
            · exact o2 q hq
/-- behind what is given both rows are the same -/
theorem U_same : ∀ (f : Nat) {a b : Rw} {bs : List (Nat × Rw)}, Ty a → Ty b → U f a b = some (.inr bs) → apL bs a = apL bs b
  | 0, a, b, bs, _, _, h => by cases h
  | f + 1, a, b, bs, ha, hb, h => by
    rcases U_cases h with ⟨e0, e⟩ | ⟨x, a', y, b', rfl, rfl, hne, hc⟩
    · rw [e0]
    · rcases hc with ⟨-, -, e⟩ | ⟨hx, hm, e⟩ | ⟨-, -, -, e⟩ | ⟨-, hy, hm, e⟩ | ⟨-, -, -, e⟩ | ⟨hx, -, rfl, hc⟩
      · cases e
      · cases e
        have : a' = [] := Ty_var ha hx
        subst this
        show sb x (y :: b') [x] = sb x (y :: b') (y :: b')
        rw [sb_one, sb_not hm]
      · cases e
      · cases e
        have : b' = [] := Ty_var hb hy
        subst this
        show sb y (x :: a') (x :: a') = sb y (x :: a') [y]
        rw [sb_one, sb_not hm]
      · cases e
      · obtain ⟨a1, a2, b1, b2, -, t1, t2, t3, t4, rfl, rfl, c1, c2⟩ := Ty_two ha hb hne
        rw [c1, c2] at hc
        rcases hc with ⟨n, -, e⟩ | ⟨s1, h1, hc⟩
        · cases e
        · have o1 := U_okB f t1 t3 h1
          rcases hc with ⟨n, -, e⟩ | ⟨s2, h2, e⟩
          · cases e
          · cases e
            have o2 := U_okB f (apL_Ty o1 t2) (apL_Ty o1 t4) h2
            have i1 := U_same f t1 t3 h1
            have i2 := U_same f (apL_Ty o1 t2) (apL_Ty o1 t4) h2
            rw [apL_comp, apL_comp, apL_cons o1 hx, apL_cons o1 hx, apL_cons o2 hx, apL_cons o2 hx, apL_app2, apL_app2, apL_app2, apL_app2, i1, i2]
/-- what was given a type is nowhere behind it -/
theorem U_gone : ∀ (f : Nat) {a b : Rw} {bs : List (Nat × Rw)}, Ty a → Ty b → U f a b = some (.inr bs) → ∀ q ∈ bs, ∀ r : Rw, q.1 ∉ apL bs r
  | 0, a, b, bs, _, _, h => by cases h
  | f + 1, a, b, bs, ha, hb, h => by
    rcases U_cases h with ⟨e0, e⟩ | ⟨x, a', y, b', rfl, rfl, hne, hc⟩
    · cases e; intro q hq; cases hq
    · have one : ∀ (v : Nat) (t : Rw), v ∉ t → ∀ q ∈ [(v, t)], ∀ r : Rw, q.1 ∉ apL [(v, t)] r := by
        intro v t hv q hq r hm
        rw [List.mem_singleton] at hq; subst hq
        rcases sb_mem.mp hm with ⟨-, h⟩ | ⟨-, h⟩
        · exact h rfl
        · exact hv h
      rcases hc with ⟨-, -, e⟩ | ⟨hx, hm, e⟩ | ⟨-, -, -, e⟩ | ⟨-, hy, hm, e⟩ | ⟨-, -, -, e⟩ | ⟨hx, -, rfl, hc⟩
      · cases e
      · cases e; exact one _ _ hm
      · cases e
      · cases e; exact one _ _ hm
      · cases e
      · obtain ⟨a1, a2, b1, b2, -, t1, t2, t3, t4, rfl, rfl, c1, c2⟩ := Ty_two ha hb hne
        rw [c1, c2] at hc
        rcases hc with ⟨n, -, e⟩ | ⟨s1, h1, hc⟩
        · cases e
        · have o1 := U_okB f t1 t3 h1
          rcases hc with ⟨n, -, e⟩ | ⟨s2, h2, e⟩
          · cases e
          · cases e
            have g1 := U_gone f t1 t3 h1
            have g2 := U_gone f (apL_Ty o1 t2) (apL_Ty o1 t4) h2
            have m2 := U_mem f h2
            intro q hq r hm
            rw [apL_comp] at hm
            rcases List.mem_append.mp hq with hq | hq
            · rcases apL_mem hm with hm | ⟨z, hz, hm⟩
              · exact g1 q hq r hm
              · rcases (m2 z hz).2 _ hm with hm | hm
                · exact g1 q hq _ hm
                · exact g1 q hq _ hm
            · exact g2 q hq _ hm
theorem apL_free {bs : List (Nat × Rw)} : ∀ {r : Rw}, (∀ q ∈ bs, q.1 ∉ r) → apL bs r = r := by
  induction bs with
  | nil => intros; rfl
  | cons q bs ih =>
    intro r h
    show apL bs (sb q.1 q.2 r) = r
    rw [sb_not (h q List.mem_cons_self)]
    exact ih fun z hz => h z (List.mem_cons_of_mem _ hz)
/-- more fuel answers the same -/
theorem U_mono : ∀ (f : Nat) {a b : Rw} {res : Nat ⊕ List (Nat × Rw)}, U f a b = some res → U (f + 1) a b = some res
  | 0, a, b, res, h => by cases h
  | f + 1, a, b, res, h => by
    rcases U_cases h with ⟨e0, e⟩ | ⟨x, a', y, b', rfl, rfl, hne, hc⟩
    · subst e0; subst e; unfold U; rw [if_pos rfl]
    · unfold U
      rw [if_neg hne]
      dsimp only
      rcases hc with ⟨hx, hm, e⟩ | ⟨hx, hm, e⟩ | ⟨hx, hy, hm, e⟩ | ⟨hx, hy, hm, e⟩ | ⟨hx, hy, hxy, e⟩ | ⟨hx, hy, rfl, hc⟩
      · rw [if_pos hx, if_pos hm, e]
      · rw [if_pos hx, if_neg hm, e]
      · rw [if_neg (by omega), if_pos hy, if_pos hm, e]
      · rw [if_neg (by omega), if_pos hy, if_neg hm, e]
      · rw [if_neg (by omega), if_neg (by omega), if_pos hxy, e]
      · rw [if_neg (by omega), if_neg (by omega), if_neg (fun q => q rfl)]
        rcases hc with ⟨n, h1, e⟩ | ⟨s1, h1, hc⟩
        · rw [U_mono f h1, e]
        · rw [U_mono f h1]
          dsimp only
          rcases hc with ⟨n, h2, e⟩ | ⟨s2, h2, e⟩
          · rw [U_mono f h2, e]
          · rw [U_mono f h2, e]
theorem U_mono_le {f g : Nat} (hg : f ≤ g) {a b : Rw} {res : Nat ⊕ List (Nat × Rw)} (h : U f a b = some res) : U g a b = some res := by
  induction hg with
  | refl => exact h
  | step _ ih => exact U_mono _ ih
theorem U_det {f g : Nat} {a b : Rw} {r1 r2 : Nat ⊕ List (Nat × Rw)} (h1 : U f a b = some r1) (h2 : U g a b = some r2) : r1 = r2 := by
  rcases Nat.le_total f g with q | q
  · rw [U_mono_le q h1] at h2; exact Option.some.inj h2
  · rw [U_mono_le q h2] at h1; exact (Option.some.inj h1).symm
