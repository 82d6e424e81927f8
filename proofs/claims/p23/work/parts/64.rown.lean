/-! THE REFERENCE'S isAround AND own -/
def same188 (A A' : gM) : Prop := ∀ a b, a ≠ 188 → A' a b = A a b
theorem same188_tr {A B C : gM} (h1 : same188 A B) (h2 : same188 B C) : same188 A C := fun a b q => (h2 a b q).trans (h1 a b q)
theorem rN_188 {A A' : gM} {u : Nat} {T : Nat → Rw} {ch : Nat → Nat} {n : Nat} (o : same188 A A') (h : rN A u T ch n) : rN A' u T ch n := by
  unfold rN at h ⊢; rw [o 185 n (by omega), o 186 n (by omega), o 187 n (by omega)]; exact h
theorem rG_188 {A A' : gM} {u : Nat} (o : same188 A A') : rG A' u = rG A u := by
  unfold rG
  congr 1
  apply List.filter_congr
  intro n _
  rw [o 185 n (by omega), o 186 n (by omega)]
theorem rS_188 {A A' : gM} {cp u : Nat} {T : Nat → Rw} {ch : Nat → Nat} (o : same188 A A') (hO : rO A' cp) (h : rS A cp u T ch) : rS A' cp u T ch :=
  ⟨by rw [o 183 3 (by omega)]; exact h.1, h.2.1, h.2.2.1, fun n hn => rN_188 o (h.2.2.2.1 n hn), hO, fun n hn => by rw [rG_188 o]; exact h.2.2.2.2.2 n hn⟩
theorem reg_188 {A A' : gM} {P : Nat → Prop} {S : List Nat} (o : same188 A A') (h : reg A P S) : reg A' P S := by
  intro n hn
  rw [o 185 n (by omega), o 186 n (by omega), o 187 n (by omega)]
  exact h n hn
/-- the types of the names around -/
def envR (A : gM) (b u ar : Nat) (tn : Nat → Nat) : Prop := A 183 9 = nI ar ∧ ar ≤ 60 ∧ ∀ k, k < ar → A 191 k = nI (tn k) ∧ b ≤ tn k ∧ tn k < u
theorem around_hit {cp : Nat} {K : gM → Int32 → Int32 → Option (gM × Int32)} {A : gM} {v i ar t : Nat} (h9 : A 183 9 = nI ar) (hi : i < ar) (ha : ar ≤ 60) (ht : A 191 i = nI t) (hh : mX6_has cp 1250 A (nI t) (nI v) = some (A, 1)) : mX6_isAround_b2 cp K A (nI v) (nI i) = some (A, 1) := by
  unfold mX6_isAround_b2
  simp (disch := omega) only [lq2, lq3, lq4, lq5, lq6, lq7, lq8, lq9, lq10, lq11, lq40, lq59, lq60, lq61, lq100, lq500, lq2600, lq5208, lq1000000, ltT, ltF, leT, leF, eqT, eqF, lt0F, le0F, le0T, ge0T, eq0T, eq0F, eqm1F, ten0, m1lt0, eq_self, nI_add, nI_1, sub1, addm1, addm2, subn, cl0, cl1, ncl, ginT, gin0, gin1, ↓reduceIte, if_true, if_false, Nat.add_sub_cancel, obe, ↓gle, true_or, or_true, h9, ht, hh]
theorem around_go {cp : Nat} {K : gM → Int32 → Int32 → Option (gM × Int32)} {A : gM} {v i ar t : Nat} (h9 : A 183 9 = nI ar) (hi : i < ar) (ha : ar ≤ 60) (ht : A 191 i = nI t) (hh : mX6_has cp 1250 A (nI t) (nI v) = some (A, 0)) : mX6_isAround_b2 cp K A (nI v) (nI i) = K A (nI v) (nI (i + 1)) := by
  unfold mX6_isAround_b2
  simp (disch := omega) only [lq2, lq3, lq4, lq5, lq6, lq7, lq8, lq9, lq10, lq11, lq40, lq59, lq60, lq61, lq100, lq500, lq2600, lq5208, lq1000000, ltT, ltF, leT, leF, eqT, eqF, lt0F, le0F, le0T, ge0T, eq0T, eq0F, eqm1F, ten0, m1lt0, eq_self, nI_add, nI_1, sub1, addm1, addm2, subn, cl0, cl1, ncl, ginT, gin0, gin1, ↓reduceIte, if_true, if_false, Nat.add_sub_cancel, obe, ↓gle, true_or, or_true, h9, ht, hh]
theorem around_end {cp : Nat} {K : gM → Int32 → Int32 → Option (gM × Int32)} {A : gM} {v i ar : Nat} (h9 : A 183 9 = nI ar) (hi : ar ≤ i) (ha : i ≤ 60) : mX6_isAround_b2 cp K A (nI v) (nI i) = some (A, 0) := by
  unfold mX6_isAround_b2
  simp (disch := omega) only [lq2, lq3, lq4, lq5, lq6, lq7, lq8, lq9, lq10, lq11, lq40, lq59, lq60, lq61, lq100, lq500, lq2600, lq5208, lq1000000, ltT, ltF, leT, leF, eqT, eqF, lt0F, le0F, le0T, ge0T, eq0T, eq0F, eqm1F, ten0, m1lt0, eq_self, nI_add, nI_1, sub1, addm1, addm2, subn, cl0, cl1, ncl, ginT, gin0, gin1, ↓reduceIte, if_true, if_false, Nat.add_sub_cancel, obe, ↓gle, true_or, or_true, h9]
section O6
variable {cp b u ar : Nat} {T : Nat → Rw} {tn : Nat → Nat}
theorem around_L {A : gM} {ch : Nat → Nat} (h : rS A cp u T ch) (hr : RG A b u) (hp : (prs A b u).length < 1250) (he : envR A b u ar tn) {v : Nat} (hv : v < u) (hTv : T v = [10 + v]) (hfv : rfr A v) : ∀ f i, i ≤ ar → ar - i < f →
    (mX6_isAround_L2 cp f A (nI v) (nI i) = some (A, 1) ∧ ∃ k, k < ar ∧ 10 + v ∈ T (tn k)) ∨ (mX6_isAround_L2 cp f A (nI v) (nI i) = some (A, 0) ∧ ∀ k, i ≤ k → k < ar → 10 + v ∉ T (tn k))
  | 0, i, _, hf => by omega
  | f + 1, i, hi, hf => by
    show (mX6_isAround_b2 cp (mX6_isAround_L2 cp f) A (nI v) (nI i) = _ ∧ _) ∨ (mX6_isAround_b2 cp (mX6_isAround_L2 cp f) A (nI v) (nI i) = _ ∧ _)
    by_cases e : i = ar
    · subst e
      exact Or.inr ⟨around_end he.1 (Nat.le_refl _) he.2.1, fun k q1 q2 => by omega⟩
    · obtain ⟨t1, t2, t3⟩ := he.2.2 i (by omega)
      have hh := has_ok h hr (fun n hn => hn.2) hv hTv hfv 1250 (tn i) 0 ⟨t2, t3⟩ abv_0 (by omega)
      by_cases q : 10 + v ∈ T (tn i)
      · rw [if_pos q] at hh
        exact Or.inl ⟨around_hit he.1 (by omega) he.2.1 t1 hh, i, by omega, q⟩
      · rw [if_neg q] at hh
        rw [around_go he.1 (by omega) he.2.1 t1 hh]
        rcases around_L h hr hp he hv hTv hfv f (i + 1) (by omega) (by omega) with z | ⟨z1, z2⟩
        · exact Or.inl z
        · refine Or.inr ⟨z1, fun k q1 q2 => ?_⟩
          by_cases e2 : k = i
          · subst e2; exact q
          · exact z2 k (by omega) q2
theorem isAround_ok {A : gM} {ch : Nat → Nat} (h : rS A cp u T ch) (hr : RG A b u) (hp : (prs A b u).length < 1250) (he : envR A b u ar tn) {v : Nat} (hv : v < u) (hTv : T v = [10 + v]) (hfv : rfr A v) :
    (mX6_isAround cp A (nI v) = some (A, 1) ∧ ∃ k, k < ar ∧ 10 + v ∈ T (tn k)) ∨ (mX6_isAround cp A (nI v) = some (A, 0) ∧ ¬ ∃ k, k < ar ∧ 10 + v ∈ T (tn k)) := by
  rcases around_L h hr hp he hv hTv hfv gF 0 (by omega) (by have := he.2.1; unfold gF; omega) with z | ⟨z1, z2⟩
  · exact Or.inl z
  · exact Or.inr ⟨z1, fun ⟨k, q1, q2⟩ => z2 k (by omega) q1 q2⟩
end O6
section W6
variable {cp : Nat} {A A1 A2 : gM} {n m i j d : Nat} {rec : gM → Int32 → Option gM}
theorem own_low (hn : mX6_now cp A (nI n) = some (A, nI m)) (hp : mX6_isPair cp A (nI m) = some (A, 0)) (hm : m < cp) (hcp : cp ≤ 8000) (hd : A 185 m = nI d) (h4 : d ≠ 4) (db : d ≤ 3000) : mX6_own_b0 cp rec A (nI n) = some A := by
  unfold mX6_own_b0 mX6_own_b66
  simp (disch := omega) only [lq2, lq3, lq4, lq5, lq6, lq7, lq8, lq9, lq10, lq11, lq40, lq59, lq60, lq61, lq100, lq500, lq2600, lq5208, lq1000000, ltT, ltF, leT, leF, eqT, eqF, lt0F, le0F, le0T, ge0T, eq0T, eq0F, eqm1F, ten0, m1lt0, eq_self, nI_add, nI_1, sub1, addm1, addm2, subn, cl0, cl1, ncl, ginT, gin0, gin1, ↓reduceIte, if_true, if_false, Nat.add_sub_cancel, obe, ↓gle, true_or, or_true, ↓(bnd hn), ↓(bnd hp), hd]
theorem own_var1 (hn : mX6_now cp A (nI n) = some (A, nI m)) (hp : mX6_isPair cp A (nI m) = some (A, 0)) (hm : m < cp) (hcp : cp ≤ 8000) (hd : A 185 m = nI 4) (ha : mX6_isAround cp A (nI m) = some (A, 1)) : mX6_own_b0 cp rec A (nI n) = some (g_up A 188 m 0) := by
  unfold mX6_own_b0 mX6_own_b65 mX6_own_b66
  simp (disch := omega) only [lq2, lq3, lq4, lq5, lq6, lq7, lq8, lq9, lq10, lq11, lq40, lq59, lq60, lq61, lq100, lq500, lq2600, lq5208, lq1000000, ltT, ltF, leT, leF, eqT, eqF, lt0F, le0F, le0T, ge0T, eq0T, eq0F, eqm1F, ten0, m1lt0, eq_self, nI_add, nI_1, sub1, addm1, addm2, subn, cl0, cl1, ncl, ginT, gin0, gin1, ↓reduceIte, if_true, if_false, Nat.add_sub_cancel, obe, ↓gle, true_or, or_true, ↓(bnd hn), ↓(bnd hp), hd, ↓(bnd ha), nar0]
theorem own_var0 (hn : mX6_now cp A (nI n) = some (A, nI m)) (hp : mX6_isPair cp A (nI m) = some (A, 0)) (hm : m < cp) (hcp : cp ≤ 8000) (hd : A 185 m = nI 4) (ha : mX6_isAround cp A (nI m) = some (A, 0)) : mX6_own_b0 cp rec A (nI n) = some (g_up A 188 m 1) := by
  unfold mX6_own_b0 mX6_own_b65 mX6_own_b66
  simp (disch := omega) only [lq2, lq3, lq4, lq5, lq6, lq7, lq8, lq9, lq10, lq11, lq40, lq59, lq60, lq61, lq100, lq500, lq2600, lq5208, lq1000000, ltT, ltF, leT, leF, eqT, eqF, lt0F, le0F, le0T, ge0T, eq0T, eq0F, eqm1F, ten0, m1lt0, eq_self, nI_add, nI_1, sub1, addm1, addm2, subn, cl0, cl1, ncl, ginT, gin0, gin1, ↓reduceIte, if_true, if_false, Nat.add_sub_cancel, obe, ↓gle, true_or, or_true, ↓(bnd hn), ↓(bnd hp), hd, ↓(bnd ha), nar1]
theorem own_pair (hn : mX6_now cp A (nI n) = some (A, nI m)) (hp : mX6_isPair cp A (nI m) = some (A, 1)) (hm : m < cp) (hcp : cp ≤ 8000) (hi : A 186 m = nI i) (h1 : rec A (nI i) = some A1) (hj : A1 187 m = nI j) (h2 : rec A1 (nI j) = some A2) : mX6_own_b0 cp rec A (nI n) = some A2 := by
  unfold mX6_own_b0 mX6_own_b66
  simp (disch := omega) only [lq2, lq3, lq4, lq5, lq6, lq7, lq8, lq9, lq10, lq11, lq40, lq59, lq60, lq61, lq100, lq500, lq2600, lq5208, lq1000000, ltT, ltF, leT, leF, eqT, eqF, lt0F, le0F, le0T, ge0T, eq0T, eq0F, eqm1F, ten0, m1lt0, eq_self, nI_add, nI_1, sub1, addm1, addm2, subn, cl0, cl1, ncl, ginT, gin0, gin1, ↓reduceIte, if_true, if_false, Nat.add_sub_cancel, obe, ↓gle, true_or, or_true, ↓(bnd hn), ↓(bnd hp), hi, h1, hj, h2]
end W6
theorem own_ok {cp b u ar : Nat} {T : Nat → Rw} {tn ch : Nat → Nat} {P : Nat → Prop} {S : List Nat} (hP : ∀ n, P n → n < u) : ∀ (f : Nat) (A : gM) (n d : Nat), rS A cp u T ch → RG A b u → (prs A b u).length < 1250 → envR A b u ar tn → reg A P S → P n → abv T (fun k => k ∈ S) n d → S.length < f + d →
    ∃ A', mX6_own cp f A (nI n) = some A' ∧ same188 A A' ∧ rO A' cp ∧ (∀ v, 10 + v ∈ T n → ((∃ k, k < ar ∧ 10 + v ∈ T (tn k)) → A' 188 v = 0) ∧ ((¬ ∃ k, k < ar ∧ 10 + v ∈ T (tn k)) → A' 188 v = 1)) ∧ ∀ v, 10 + v ∉ T n → A' 188 v = A 188 v
  | 0, A, n, d, _, _, _, _, _, _, ha, hf => by have := abv_le ha S fun k hk => hk; omega
  | f + 1, A, n, d, h, hR, hp, he, hr, hn, ha, hf => by
    have hu := h.2.2.1
    have hcp := okc_le h.2.1
    obtain ⟨m, x, hm, hPm, xb, hk, hnow, hT, hfm, hcase⟩ := now_kind h hr hP hn
    show ∃ A', mX6_own_b0 cp (mX6_own cp f) A (nI n) = some A' ∧ _
    rw [← hT]
    rcases hcase with ⟨h2, hTm⟩ | ⟨rfl, hl, hTm⟩ | ⟨h2, i, j, hPi, hPj, hi, hj, hmS, hl, hr2, hTm⟩
    · refine ⟨A, own_low hnow (isPair6F (by omega) (by omega) hk (by omega) (by omega) (by omega)) (by omega) (by omega) hk (by omega) xb, fun _ _ _ => rfl, h.2.2.2.2.1, fun v hv => ?_, fun _ _ => rfl⟩
      rw [hTm, List.mem_singleton] at hv; omega
    · have hp0 := isPair6F (cp := cp) (A := A) (n := m) (by omega) (by omega) hk (by omega) (by omega) (by omega)
      have oth : ∀ x v, 10 + v ∉ T m → g_up A 188 m x 188 v = A 188 v := fun x v hv => up_p (fun q => hv (by rw [hTm, q]; exact List.mem_singleton.mpr rfl))
      have isv : ∀ v, 10 + v ∈ T m → v = m := fun v hv => by rw [hTm, List.mem_singleton] at hv; omega
      have rOu : ∀ x : Int32, (x = 0 ∨ x = 1) → rO (g_up A 188 m x) cp := fun x hx i hi => by
        by_cases q : i = m
        · subst q; rw [up_s]; exact hx
        · rw [up_p q]; exact h.2.2.2.2.1 i hi
      rcases isAround_ok h hR hp he hm hTm hfm with ⟨z1, z2⟩ | ⟨z1, z2⟩
      · refine ⟨_, own_var1 hnow hp0 (by omega) (by omega) hk z1, fun a b q => up_c q, rOu 0 (Or.inl rfl), fun v hv => ?_, oth 0⟩
        rw [isv v hv]
        exact ⟨fun _ => up_s, fun q => absurd z2 q⟩
      · refine ⟨_, own_var0 hnow hp0 (by omega) (by omega) hk z1, fun a b q => up_c q, rOu 1 (Or.inr rfl), fun v hv => ?_, oth 1⟩
        rw [isv v hv]
        exact ⟨fun q => absurd q z2, fun _ => up_s⟩
    · obtain ⟨A1, e1, s1, O1, c1, k1⟩ := own_ok hP f A i (d + 1) h hR hp he hr hPi (abv_down (x := [x]) ha hmS hT.symm (by simp) (by rw [hTm]; rfl)) (by omega)
      have pe : prs A1 b u = prs A b u := prs_off fun n _ => s1 185 n (by omega)
      obtain ⟨A2, e2, s2, O2, c2, k2⟩ := own_ok hP f A1 j (d + 1) (rS_188 s1 O1 h) (by unfold RG; rw [pe]; exact reg_188 s1 hR) (by rw [pe]; exact hp) ⟨by rw [s1 183 9 (by omega)]; exact he.1, he.2.1, fun k hk => by rw [s1 191 k (by omega)]; exact he.2.2 k hk⟩ (reg_188 s1 hr) hPj (abv_down (x := x :: T i) (y := []) ha hmS hT.symm (by simp) (by rw [hTm]; simp)) (by omega)
      refine ⟨A2, own_pair hnow (isPair6T (by omega) (by omega) hk h2) (by omega) (by omega) hl e1 (by rw [s1 187 m (by omega)]; exact hr2) e2, same188_tr s1 s2, O2, fun v hv => ?_, fun v hv => ?_⟩
      · by_cases q : 10 + v ∈ T j
        · exact c2 v q
        · rw [k2 v q]
          refine c1 v ?_
          rw [hTm] at hv
          rcases List.mem_cons.mp hv with hv | hv
          · omega
          · exact (List.mem_append.mp hv).elim id fun z => absurd z q
      · rw [hTm] at hv
        rw [k2 v (fun q => hv (List.mem_cons_of_mem _ (List.mem_append.mpr (Or.inr q)))), k1 v (fun q => hv (List.mem_cons_of_mem _ (List.mem_append.mpr (Or.inl q))))]
