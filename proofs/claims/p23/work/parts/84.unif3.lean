/-! THE THREE WAYS IN WHICH TYPES ARE MADE THE SAME HERE -/
theorem U_pos {f : Nat} {a b : Rw} {res : Nat ⊕ List (Nat × Rw)} (h : U f a b = some res) : ∃ g, f = g + 1 := by
  cases f with
  | zero => cases h
  | succ g => exact ⟨g, rfl⟩
/-- a variable on the left, nowhere in the other one -/
theorem U_vl {f x : Nat} {b : Rw} {res : Nat ⊕ List (Nat × Rw)} (hx : 10 ≤ x) (hb : x ∉ b) (h : U f [x] b = some res) : res = .inr [(x, b)] := by
  obtain ⟨g, rfl⟩ := U_pos h
  rcases U_cases h with ⟨e, -⟩ | ⟨y, a', z, b', e1, e2, -, hc⟩
  · exact absurd (by rw [← e]; exact List.mem_singleton.mpr rfl) hb
  · obtain ⟨rfl, rfl⟩ := List.cons.inj e1
    rcases hc with ⟨-, q, -⟩ | ⟨-, -, q⟩ | ⟨q, -⟩ | ⟨q, -⟩ | ⟨q, -⟩ | ⟨q, -⟩
    · exact absurd q hb
    · exact q
    all_goals omega
/-- a variable on the right, nowhere in the other one -/
theorem U_vr {f w : Nat} {a : Rw} {res : Nat ⊕ List (Nat × Rw)} (ha : Ty a) (hw : 10 ≤ w) (hb : w ∉ a) (h : U f a [w] = some res) : (∃ y, 10 ≤ y ∧ a = [y] ∧ res = .inr [(y, [w])]) ∨ ((∀ y, 10 ≤ y → a ≠ [y]) ∧ res = .inr [(w, a)]) := by
  obtain ⟨g, rfl⟩ := U_pos h
  rcases U_cases h with ⟨e, -⟩ | ⟨y, a', z, b', e1, e2, -, hc⟩
  · exact absurd (by rw [e]; exact List.mem_singleton.mpr rfl) hb
  · obtain ⟨rfl, rfl⟩ := List.cons.inj e2
    subst e1
    rcases hc with ⟨q0, q, -⟩ | ⟨q0, -, q⟩ | ⟨q0, -, q, -⟩ | ⟨q0, -, -, q⟩ | ⟨-, q, -⟩ | ⟨-, q, -⟩
    · rw [List.mem_singleton] at q
      exact absurd (by rw [← q]; exact List.mem_cons_self) hb
    · have := Ty_var ha q0
      subst this
      exact Or.inl ⟨y, q0, rfl, q⟩
    · exact absurd q hb
    · exact Or.inr ⟨fun v hv e => by have := (List.cons.inj e).1; omega, q⟩
    all_goals omega
theorem U_pr {f c : Nat} {a1 a2 b1 b2 : Rw} {res : Nat ⊕ List (Nat × Rw)} (hc : c = 2 ∨ c = 3) (t1 : Ty a1) (t2 : Ty b1) (hne : c :: (a1 ++ a2) ≠ c :: (b1 ++ b2)) (h : U (f + 1) (c :: (a1 ++ a2)) (c :: (b1 ++ b2)) = some res) :
    (∃ n, U f a1 b1 = some (.inl n) ∧ res = .inl n) ∨ ∃ bs, U f a1 b1 = some (.inr bs) ∧ ((∃ n, U f (apL bs a2) (apL bs b2) = some (.inl n) ∧ res = .inl n) ∨ ∃ bs2, U f (apL bs a2) (apL bs b2) = some (.inr bs2) ∧ res = .inr (bs ++ bs2)) := by
  rcases U_cases h with ⟨e, -⟩ | ⟨y, a', z, b', e1, e2, -, hk⟩
  · exact absurd e hne
  · obtain ⟨rfl, rfl⟩ := List.cons.inj e1
    obtain ⟨rfl, rfl⟩ := List.cons.inj e2
    rw [Ty_cut t1, Ty_cut t2] at hk
    rcases hk with ⟨q, -⟩ | ⟨q, -⟩ | ⟨-, q, -⟩ | ⟨-, q, -⟩ | ⟨-, -, q, -⟩ | ⟨-, -, -, hk⟩
    · omega
    · omega
    · omega
    · omega
    · exact absurd rfl q
    · exact hk
theorem sb_ren {y w : Nat} : ∀ {r : Rw}, sb y [w] r = rn (fun c => if c = y then w else c) r
  | [] => rfl
  | c :: r => by
    rw [sb_cons, rn_cons, sb_ren]
    by_cases q : c = y
    · rw [if_pos q, if_pos q]; rfl
    · rw [if_neg q, if_neg q]; rfl
/-- a variable by another one that isn't there -/
theorem num0_sb {y w : Nat} {r : Rw} (hy : 10 ≤ y) (hw : 10 ≤ w) (h : w ∉ r) : num0 (sb y [w] r) = num0 r ∧ (sb y [w] r).length = r.length := by
  rw [sb_ren]
  refine ⟨num0_rnm (fun c hc => if_neg (by omega)) (fun c _ h10 => ?_) fun a ha b hb e => ?_, rn_len⟩
  · show 10 ≤ (if c = y then w else c)
    by_cases q : c = y
    · rw [if_pos q]; exact hw
    · rw [if_neg q]; exact h10
  · have e : (if a = y then w else a) = (if b = y then w else b) := e
    by_cases q : a = y
    · rw [if_pos q] at e
      by_cases z : b = y
      · rw [q, z]
      · rw [if_neg z] at e; exact absurd (by rw [e]; exact hb) h
    · rw [if_neg q] at e
      by_cases z : b = y
      · rw [if_pos z] at e; exact absurd (by rw [← e]; exact ha) h
      · rw [if_neg z] at e; exact e
theorem num0_v {x : Nat} (hx : 10 ≤ x) : num0 [x] = [10] := by
  show num kN [] [x] = _
  rw [num_cons, if_neg (nkN hx), if_neg (by simp)]; rfl
/-- a wheel from a variable to itself, turned -/
theorem U_turn {f x w : Nat} {R : Rw} {res : Nat ⊕ List (Nat × Rw)} (hR : Ty R) (hx : 10 ≤ x) (hw : 10 ≤ w) (hxw : x ≠ w) (xR : x ∉ R) (wR : w ∉ R) (h : U f (2 :: ([x] ++ [x])) (2 :: (R ++ [w])) = some res) : ∃ bs, res = .inr bs ∧ num0 (apL bs [w]) = num0 R ∧ (apL bs [w]).length = R.length := by
  obtain ⟨g, rfl⟩ := U_pos h
  have hne : 2 :: ([x] ++ [x]) ≠ 2 :: (R ++ [w]) := fun e => by
    have e := (List.cons.inj e).2
    have := (Ty_inj (Ty_leaf (if_neg (by omega))) hR e).1
    exact xR (by rw [← this]; exact List.mem_singleton.mpr rfl)
  have vl : ∀ {r1}, U g [x] R = some r1 → r1 = .inr [(x, R)] := fun h => U_vl hx xR h
  rcases U_pr (Or.inl rfl) (Ty_leaf (if_neg (by omega))) hR hne h with ⟨n, h1, -⟩ | ⟨bs, h1, hk⟩
  · have := vl h1; cases this
  · have := vl h1; cases this
    have e1 : apL [(x, R)] [x] = R := sb_one
    have e2 : apL [(x, R)] [w] = [w] := sb_ne (by omega)
    rw [e1, e2] at hk
    have two : ∀ {r2}, U g R [w] = some r2 → ∃ b2, r2 = .inr b2 ∧ num0 (apL b2 [w]) = num0 R ∧ (apL b2 [w]).length = R.length := fun h2 => by
      rcases U_vr hR hw wR h2 with ⟨y, hy, rfl, rfl⟩ | ⟨-, rfl⟩
      · refine ⟨_, rfl, ?_⟩
        have e3 : apL [(y, [w])] [w] = [w] := sb_ne (fun e => wR (by rw [e]; exact List.mem_singleton.mpr rfl))
        rw [e3, num0_v hw, num0_v hy]; exact ⟨rfl, rfl⟩
      · refine ⟨_, rfl, ?_⟩
        have e3 : apL [(w, R)] [w] = R := sb_one
        rw [e3]; exact ⟨rfl, rfl⟩
    rcases hk with ⟨n, h2, -⟩ | ⟨b2, h2, e⟩
    · obtain ⟨b2, e, -⟩ := two h2; cases e
    · obtain ⟨b2', e', h3⟩ := two h2
      cases e'
      refine ⟨_, e, ?_⟩
      rw [apL_comp, e2]; exact h3
/-- an axle, and one of two new variables -/
theorem U_end {f v w : Nat} {X Y : Rw} {res : Nat ⊕ List (Nat × Rw)} (hX : Ty X) (hY : Ty Y) (hv : 10 ≤ v) (hw : 10 ≤ w) (hvw : v ≠ w) (vX : v ∉ X) (wX : w ∉ X) (vY : v ∉ Y) (wY : w ∉ Y) (h : U f (3 :: (X ++ Y)) (3 :: ([v] ++ [w])) = some res) : ∃ bs, res = .inr bs ∧ (num0 (apL bs [v]) = num0 X ∧ (apL bs [v]).length = X.length) ∧ num0 (apL bs [w]) = num0 Y ∧ (apL bs [w]).length = Y.length := by
  obtain ⟨g, rfl⟩ := U_pos h
  have hne : 3 :: (X ++ Y) ≠ 3 :: ([v] ++ [w]) := fun e => by
    have e := (List.cons.inj e).2
    have := (Ty_inj hX (Ty_leaf (c := v) (if_neg (by omega))) e).1
    exact vX (by rw [this]; exact List.mem_singleton.mpr rfl)
  -- behind the left types
  obtain ⟨b1, hb1, hYl, hw1, hYn, tail⟩ : ∃ b1, (∀ {r1}, U g X [v] = some r1 → r1 = .inr b1) ∧ Ty (apL b1 Y) ∧ apL b1 [w] = [w] ∧ (w ∉ apL b1 Y ∧ num0 (apL b1 Y) = num0 Y ∧ (apL b1 Y).length = Y.length) ∧ ∀ b2, (∃ y, 10 ≤ y ∧ apL b1 Y = [y] ∧ b2 = [(y, [w])]) ∨ b2 = [(w, apL b1 Y)] → num0 (apL b2 (apL b1 [v])) = num0 X ∧ (apL b2 (apL b1 [v])).length = X.length := by
    by_cases q : ∃ y, 10 ≤ y ∧ X = [y]
    · obtain ⟨x, hx, rfl⟩ := q
      have hxv : x ≠ v := fun e => vX (by rw [e]; exact List.mem_singleton.mpr rfl)
      have hxw : x ≠ w := fun e => wX (by rw [e]; exact List.mem_singleton.mpr rfl)
      refine ⟨[(x, [v])], fun h1 => ?_, Ty_sb hx (Ty_leaf (if_neg (by omega))) hY, sb_ne (by omega), ⟨fun z => ?_, num0_sb hx hv vY⟩, fun b2 hb2 => ?_⟩
      · rcases U_vr hX hv vX h1 with ⟨y, -, e, e2⟩ | ⟨e, -⟩
        · obtain ⟨rfl, -⟩ := List.cons.inj e; exact e2
        · exact absurd rfl (e x hx)
      · rcases sb_mem.mp z with ⟨z, -⟩ | ⟨-, z⟩
        · exact wY z
        · rw [List.mem_singleton] at z; omega
      · have e1 : apL [(x, [v])] [v] = [v] := sb_ne (by omega)
        rw [e1, num0_v hx]
        rcases hb2 with ⟨y, hy, -, rfl⟩ | rfl
        · show num0 (sb y [w] [v]) = [10] ∧ (sb y [w] [v]).length = 1
          by_cases e : v = y
          · rw [← e, sb_one, num0_v hw]; exact ⟨rfl, rfl⟩
          · rw [sb_ne e, num0_v hv]; exact ⟨rfl, rfl⟩
        · show num0 (sb w _ [v]) = [10] ∧ (sb w _ [v]).length = 1
          rw [sb_ne hvw, num0_v hv]; exact ⟨rfl, rfl⟩
    · have eY : apL [(v, X)] Y = Y := sb_not vY
      refine ⟨[(v, X)], fun h1 => ?_, by rw [eY]; exact hY, sb_ne (by omega), by rw [eY]; exact ⟨wY, rfl, rfl⟩, fun b2 hb2 => ?_⟩
      · rcases U_vr hX hv vX h1 with ⟨y, hy, e, -⟩ | ⟨-, e2⟩
        · exact absurd ⟨y, hy, e⟩ q
        · exact e2
      · have e1 : apL [(v, X)] [v] = X := sb_one
        rw [e1]
        rcases hb2 with ⟨y, hy, -, rfl⟩ | rfl
        · exact num0_sb hy hw wX
        · have : apL [(w, apL [(v, X)] Y)] X = X := sb_not wX
          rw [this]; exact ⟨rfl, rfl⟩
  rcases U_pr (Or.inr rfl) hX (Ty_leaf (c := v) (if_neg (by omega))) hne h with ⟨n, h1, -⟩ | ⟨bs, h1, hk⟩
  · have := hb1 h1; cases this
  · have := hb1 h1; cases this
    rw [hw1] at hk
    have two : ∀ {r2}, U g (apL b1 Y) [w] = some r2 → ∃ b2, r2 = .inr b2 ∧ ((∃ y, 10 ≤ y ∧ apL b1 Y = [y] ∧ b2 = [(y, [w])]) ∨ b2 = [(w, apL b1 Y)]) := fun h2 => by
      rcases U_vr hYl hw hYn.1 h2 with ⟨y, hy, e, e2⟩ | ⟨-, e2⟩
      · exact ⟨_, e2, Or.inl ⟨y, hy, e, rfl⟩⟩
      · exact ⟨_, e2, Or.inr rfl⟩
    rcases hk with ⟨n, h2, -⟩ | ⟨b2, h2, e⟩
    · obtain ⟨b2, e, -⟩ := two h2; cases e
    · obtain ⟨b2', e', h3⟩ := two h2
      cases e'
      refine ⟨_, e, ?_, ?_⟩
      · rw [apL_comp]; exact tail b2 h3
      · rw [apL_comp, hw1]
        rcases h3 with ⟨y, hy, ey, rfl⟩ | rfl
        · have hyw : w ≠ y := fun e => hYn.1 (by rw [ey, e]; exact List.mem_singleton.mpr rfl)
          have e3 : apL [(y, [w])] [w] = [w] := sb_ne hyw
          rw [e3, num0_v hw, ← hYn.2.1, ← hYn.2.2, ey, num0_v hy]; exact ⟨rfl, rfl⟩
        · have e3 : apL [(w, apL b1 Y)] [w] = apL b1 Y := sb_one
          rw [e3]; exact hYn.2
/-- a type and another one that differs in its variables alone -/
theorem U_ren {ρ : Nat → Nat} {S : Nat → Prop} (h0 : ∀ c, c < 10 → ρ c = c) (h1 : ∀ c, S c → 10 ≤ c → 10 ≤ ρ c) (hd : ∀ x y, S x → S y → 10 ≤ x → 10 ≤ y → ρ x ≠ y) : ∀ (f : Nat) (a : Rw) (τ : Nat → Nat) (res : Nat ⊕ List (Nat × Rw)), Ty a → (∀ x ∈ a, S x) → (∀ x, S x → τ x = x ∨ τ x = ρ x) → U f (rn τ a) (rn ρ a) = some res →
    ∃ bs β, res = .inr bs ∧ (∀ r, apL bs r = rn β r) ∧ (∀ y, β y = y ∨ (S y ∧ 10 ≤ y ∧ β y = ρ y)) ∧ ∀ x ∈ a, β (τ x) = ρ x
  | 0, a, τ, res, _, _, _, h => by cases h
  | f + 1, a, τ, res, ha, hS, hτ, h => by
    have fix : ∀ x ∈ a, ∀ (β : Nat → Nat), (∀ y, β y = y ∨ (S y ∧ 10 ≤ y ∧ β y = ρ y)) → β (ρ x) = ρ x := fun x hx β hβ => by
      rcases hβ (ρ x) with q | ⟨q1, q2, -⟩
      · exact q
      · by_cases z : x < 10
        · rw [h0 x z] at q2; omega
        · exact absurd rfl (hd x (ρ x) (hS x hx) q1 (by omega) q2)
    by_cases e : rn τ a = rn ρ a
    · rcases U_cases h with ⟨-, e2⟩ | ⟨x, a', y, b', e1, e2, hne, -⟩
      · refine ⟨[], id, e2, fun r => (List.map_id r).symm, fun y => Or.inl rfl, fun x hx => ?_⟩
        have : ∀ (r : Rw), rn τ r = rn ρ r → ∀ x ∈ r, τ x = ρ x := by
          intro r
          induction r with
          | nil => intro _ x hx; cases hx
          | cons c r ih =>
            intro e x hx
            have e := List.cons.inj e
            rcases List.mem_cons.mp hx with rfl | hx
            · exact e.1
            · exact ih e.2 x hx
        exact this a e x hx
      · exact absurd e hne
    · rcases Ty_cases ha with ⟨c, hc, rfl⟩ | ⟨c, a1, a2, hc, t1, t2, rfl⟩
      · have hSc := hS c List.mem_cons_self
        have hc10 : 10 ≤ c := by
          by_cases z : c < 10
          · rcases hτ c hSc with q | q
            · exact absurd (by rw [rn_one, rn_one, q, h0 c z]) e
            · exact absurd (by rw [rn_one, rn_one, q]) e
          · omega
        have hτc : τ c = c := by
          rcases hτ c hSc with q | q
          · exact q
          · exact absurd (by rw [rn_one, rn_one, q]) e
        rw [rn_one, rn_one, hτc] at h
        have hne : c ≠ ρ c := fun z => e (by rw [rn_one, rn_one, hτc, ← z])
        have := U_vl hc10 (fun z => hne (List.mem_singleton.mp z)) h
        refine ⟨_, fun y => if y = c then ρ c else y, this, fun r => sb_ren, fun y => ?_, fun x hx => ?_⟩
        · show (if y = c then ρ c else y) = y ∨ _
          by_cases q : y = c
          · subst q; exact Or.inr ⟨hSc, hc10, if_pos rfl⟩
          · exact Or.inl (if_neg q)
        · rw [List.mem_singleton] at hx
          subst hx
          rw [hτc]; exact if_pos rfl
      · have hp := ar_low hc
        have S1 : ∀ x ∈ a1, S x := fun x hx => hS x (List.mem_cons_of_mem _ (List.mem_append.mpr (Or.inl hx)))
        have S2 : ∀ x ∈ a2, S x := fun x hx => hS x (List.mem_cons_of_mem _ (List.mem_append.mpr (Or.inr hx)))
        have hcl : c < 10 := by omega
        have hτc : τ c = c := by
          rcases hτ c (hS c List.mem_cons_self) with q | q
          · exact q
          · rw [q, h0 c hcl]
        have hρc : ρ c = c := h0 c hcl
        have tyr : ∀ {σ : Nat → Nat} {r : Rw}, (∀ x ∈ r, x < 10 → σ x = x) → (∀ x ∈ r, 10 ≤ x → 10 ≤ σ x) → Ty r → Ty (rn σ r) := fun {σ} {r} q1 q2 ht => by
          have e : rn σ r = subE (fun c => [σ c]) r := by
            show r.map σ = r.flatMap fun c => [σ c]
            rw [List.map_eq_flatMap]
          rw [e]
          exact Ty_subE (fun c hc q => by rw [q1 c hc q]) (fun c hc q => Ty_leaf (if_neg (by have := q2 c hc q; omega))) ht
        have τl : ∀ x, S x → x < 10 → τ x = x := fun x hx z => (hτ x hx).elim id fun q => by rw [q, h0 x z]
        have τh : ∀ x, S x → 10 ≤ x → 10 ≤ τ x := fun x hx z => (hτ x hx).elim (fun q => by omega) fun q => by rw [q]; exact h1 x hx z
        have h' : U (f + 1) (c :: (rn τ a1 ++ rn τ a2)) (c :: (rn ρ a1 ++ rn ρ a2)) = some res := by
          rw [rn_cons, rn_cons, rn_app, rn_app, hτc, hρc] at h; exact h
        have hne : c :: (rn τ a1 ++ rn τ a2) ≠ c :: (rn ρ a1 ++ rn ρ a2) := fun z => e (by rw [rn_cons, rn_cons, rn_app, rn_app, hτc, hρc]; exact z)
        have T1 := tyr (fun x hx => τl x (S1 x hx)) (fun x hx => τh x (S1 x hx)) t1
        have T2 : Ty (rn ρ a1) := tyr (fun x _ => h0 x) (fun x hx => h1 x (S1 x hx)) t1
        rcases U_pr hp T1 T2 hne h' with ⟨n, g1, -⟩ | ⟨bs, g1, hk⟩
        · obtain ⟨b1, β1, e1, -⟩ := U_ren h0 h1 hd f a1 τ _ t1 S1 hτ g1
          cases e1
        · obtain ⟨b1, β1, e1, k1, k2, k3⟩ := U_ren h0 h1 hd f a1 τ _ t1 S1 hτ g1
          cases e1
          have r1 : apL bs (rn τ a2) = rn (fun x => β1 (τ x)) a2 := by rw [k1]; exact List.map_map
          have r2 : apL bs (rn ρ a2) = rn ρ a2 := by
            rw [k1]
            show (a2.map ρ).map β1 = a2.map ρ
            rw [List.map_map]
            exact List.map_congr_left fun x hx => fix x (List.mem_cons_of_mem _ (List.mem_append.mpr (Or.inr hx))) β1 k2
          rw [r1, r2] at hk
          have fixS : ∀ x, S x → β1 (ρ x) = ρ x := fun x hx => by
            rcases k2 (ρ x) with q | ⟨q1, q2, -⟩
            · exact q
            · by_cases z : x < 10
              · rw [h0 x z] at q2; omega
              · exact absurd rfl (hd x (ρ x) hx q1 (by omega) q2)
          have hτ' : ∀ x, S x → β1 (τ x) = x ∨ β1 (τ x) = ρ x := fun x hx => by
            rcases hτ x hx with q | q
            · rw [q]
              rcases k2 x with z | ⟨-, -, z⟩
              · exact Or.inl z
              · exact Or.inr z
            · rw [q]; exact Or.inr (fixS x hx)
          rcases hk with ⟨n, g2, -⟩ | ⟨bs2, g2, e3⟩
          · obtain ⟨b2, β2, e2, -⟩ := U_ren h0 h1 hd f a2 (fun x => β1 (τ x)) _ t2 S2 hτ' g2
            cases e2
          · obtain ⟨b2, β2, e2, m1, m2, m3⟩ := U_ren h0 h1 hd f a2 (fun x => β1 (τ x)) _ t2 S2 hτ' g2
            cases e2
            refine ⟨_, fun y => β2 (β1 y), e3, fun r => ?_, fun y => ?_, fun x hx => ?_⟩
            · rw [apL_comp, k1, m1]; exact List.map_map
            · show β2 (β1 y) = y ∨ S y ∧ 10 ≤ y ∧ β2 (β1 y) = ρ y
              rcases k2 y with q | ⟨q1, q2, q3⟩
              · rw [q]; exact m2 y
              · refine Or.inr ⟨q1, q2, ?_⟩
                rw [q3]
                rcases m2 (ρ y) with z | ⟨z1, z2, -⟩
                · exact z
                · exact absurd rfl (hd y (ρ y) q1 z1 q2 z2)
            · show β2 (β1 (τ x)) = ρ x
              rcases List.mem_cons.mp hx with rfl | hx
              · have hb1 : β1 x = x := (k2 x).elim id fun z => by omega
                have hb2 : β2 x = x := (m2 x).elim id fun z => by omega
                rw [hτc, hb1, hb2, hρc]
              · rcases List.mem_append.mp hx with hx | hx
                · rw [k3 x hx]
                  rcases m2 (ρ x) with z | ⟨z1, z2, -⟩
                  · exact z
                  · by_cases y : x < 10
                    · rw [h0 x y] at z2; omega
                    · exact absurd rfl (hd x (ρ x) (S1 x hx) z1 (by omega) z2)
                · exact m3 x hx
