/-! THE REFERENCE'S used: a type with new variables in the place of own ones -/
def subE (e : Nat → Rw) (r : Rw) : Rw := r.flatMap e
theorem subE_nil {e : Nat → Rw} : subE e [] = [] := rfl
theorem subE_cons {e : Nat → Rw} {c : Nat} {r : Rw} : subE e (c :: r) = e c ++ subE e r := by simp [subE]
theorem subE_app {e : Nat → Rw} {a b : Rw} : subE e (a ++ b) = subE e a ++ subE e b := by simp [subE]
theorem subE_one {e : Nat → Rw} {c : Nat} : subE e [c] = e c := by simp [subE]
theorem subE_cg {e e' : Nat → Rw} : ∀ {r : Rw}, (∀ c ∈ r, e c = e' c) → subE e r = subE e' r
  | [], _ => rfl
  | c :: r, h => by rw [subE_cons, subE_cons, h c List.mem_cons_self, subE_cg fun d hd => h d (List.mem_cons_of_mem _ hd)]
theorem subE_id {e : Nat → Rw} : ∀ {r : Rw}, (∀ c ∈ r, e c = [c]) → subE e r = r
  | [], _ => rfl
  | c :: r, h => by rw [subE_cons, h c List.mem_cons_self, subE_id fun d hd => h d (List.mem_cons_of_mem _ hd)]; rfl
theorem subE_mem {e : Nat → Rw} {x : Nat} {r : Rw} : x ∈ subE e r ↔ ∃ c ∈ r, x ∈ e c := List.mem_flatMap
theorem subE_comp {e e' : Nat → Rw} : ∀ {r : Rw}, subE e' (subE e r) = subE (fun c => subE e' (e c)) r
  | [] => rfl
  | c :: r => by rw [subE_cons, subE_app, subE_comp, subE_cons]
theorem tk_subE {e : Nat → Rw} : ∀ (r : Rw) (k j : Nat), (∀ c ∈ r, c < 10 → e c = [c]) → (∀ c ∈ r, 10 ≤ c → Ty (e c)) → tk k r = some j → tk k (subE e r) = some j
  | [], k, j, _, _, h => h
  | c :: r, 0, j, _, _, h => by simp [tk] at h
  | c :: r, k + 1, j, h1, h2, h => by
    have h0 : tk (k + ar c) r = some j := h
    rw [subE_cons]
    by_cases q : c < 10
    · rw [h1 c List.mem_cons_self q]
      show tk (k + ar c) (subE e r) = some j
      exact tk_subE r _ j (fun d hd => h1 d (List.mem_cons_of_mem _ hd)) (fun d hd => h2 d (List.mem_cons_of_mem _ hd)) h0
    · rw [Ty_app (h2 c List.mem_cons_self (by omega))]
      have : ar c = 0 := if_neg (by omega)
      rw [this] at h0
      exact tk_subE r k j (fun d hd => h1 d (List.mem_cons_of_mem _ hd)) (fun d hd => h2 d (List.mem_cons_of_mem _ hd)) h0
theorem Ty_subE {e : Nat → Rw} {r : Rw} (h1 : ∀ c ∈ r, c < 10 → e c = [c]) (h2 : ∀ c ∈ r, 10 ≤ c → Ty (e c)) (h : Ty r) : Ty (subE e r) := tk_subE r 1 0 h1 h2 h
/-- the new variable in the place of an own one -/
def inst (A : gM) (x : Nat) : Rw := if 10 ≤ x ∧ ¬ A 188 (x - 10) = 0 then [10 + (A 189 (x - 10)).toNatClampNeg] else [x]
theorem inst_no {A : gM} {r : Rw} (h : ¬ ownIn A r) : subE (inst A) r = r := subE_id fun c hc => if_neg fun q => h ⟨c - 10, by rw [show 10 + (c - 10) = c by omega]; exact hc, q.2⟩
def nw (A : gM) (fm v : Nat) : Prop := ∃ w, fm ≤ w ∧ w ≤ 8000 ∧ A 189 v = nI w
def freshI (A : gM) (fm u : Nat) (T : Nat → Rw) : Prop := (∀ v, v < fm → A 189 v = -1 ∨ ∃ w, w < u ∧ A 189 v = nI w ∧ (fm ≤ w → T w = [10 + w] ∧ A 185 w = nI 4 ∧ A 186 w = -1 ∧ A 188 w = 0)) ∧ ∀ v v' w, v < fm → v' < fm → fm ≤ w → w ≤ 8000 → A 189 v = nI w → A 189 v' = nI w → v = v'
def offU (A A' : gM) (u fm : Nat) : Prop := ∀ a b, ¬ (a = 183 ∧ b = 3) → (a < 185 ∨ 189 < a ∨ (a ≤ 188 ∧ b < u) ∨ (a = 189 ∧ fm ≤ b ∧ b < u)) → A' a b = A a b
section U6
variable {N cp cp1 cp2 cp3 fu : Nat} {rec : Nat → gM → Int32 → Int32 → Option (gM × (Nat × Nat × Nat) × Int32)} {A A1 A2 A3 : gM} {n m i j d w u fm r1 r2 r3 k1 n1 k2 n2 k3 n3 : Nat}
theorem used_no (hn : mX6_now cp A (nI n) = some (A, nI m)) (ho : mX6_hasOwn cp fu A (nI m) = some (A, 0)) : mX6_used_b0 N cp 0 0 rec fu A (nI n) (nI fm) = some (A, (cp, 0, 0), nI m) := by
  unfold mX6_used_b0
  simp (disch := omega) only [lq2, lq3, lq4, lq5, lq6, lq7, lq8, lq9, lq10, lq11, lq40, lq59, lq60, lq61, lq100, lq500, lq2600, lq5208, lq1000000, ltT, ltF, leT, leF, eqT, eqF, lt0F, le0F, le0T, ge0T, eq0T, eq0F, eqm1F, ten0, m1lt0, eq_self, nI_add, nI_1, sub1, addm1, addm2, subn, cl0, cl1, ncl, ginT, gin0, gin1, ↓reduceIte, if_true, if_false, Nat.add_sub_cancel, obe, ↓gle, true_or, or_true, ↓(bnd hn), ↓(bnd ho)]
theorem used_old (hn : mX6_now cp A (nI n) = some (A, nI m)) (ho : mX6_hasOwn cp fu A (nI m) = some (A, 1)) (hp : mX6_isPair cp A (nI m) = some (A, 0)) (hm : m < cp) (hcp : cp ≤ 8000) (h9 : A 189 m = nI w) (hw : fm ≤ w) (hw2 : w ≤ 8000) : mX6_used_b0 N cp 0 0 rec fu A (nI n) (nI fm) = some (A, (cp, 0, 0), nI w) := by
  unfold mX6_used_b0
  simp (disch := omega) only [lq2, lq3, lq4, lq5, lq6, lq7, lq8, lq9, lq10, lq11, lq40, lq59, lq60, lq61, lq100, lq500, lq2600, lq5208, lq1000000, ltT, ltF, leT, leF, eqT, eqF, lt0F, le0F, le0T, ge0T, eq0T, eq0F, eqm1F, ten0, m1lt0, eq_self, nI_add, nI_1, sub1, addm1, addm2, subn, cl0, cl1, ncl, ginT, gin0, gin1, ↓reduceIte, if_true, if_false, Nat.add_sub_cancel, obe, ↓gle, true_or, or_true, ↓(bnd hn), ↓(bnd ho), ↓(bnd hp), h9]
theorem used_new (hn : mX6_now cp A (nI n) = some (A, nI m)) (ho : mX6_hasOwn cp fu A (nI m) = some (A, 1)) (hp : mX6_isPair cp A (nI m) = some (A, 0)) (hm : m < cp) (hcp : cp ≤ 8000) (h9 : (A 189 m < nI fm) = True) (hv : mX6_variable N cp A = some (A1, (cp1, k1, n1), nI u)) (hm1 : m < cp1) (hcp1 : cp1 ≤ 8000) :
    mX6_used_b0 N cp 0 0 rec fu A (nI n) (nI fm) = some (g_up A1 189 m (nI u), (cp1, 0 + k1, 0 + n1), nI u) := by
  unfold mX6_used_b0 mX6_used_b82
  simp (disch := omega) only [lq2, lq3, lq4, lq5, lq6, lq7, lq8, lq9, lq10, lq11, lq40, lq59, lq60, lq61, lq100, lq500, lq2600, lq5208, lq1000000, ltT, ltF, leT, leF, eqT, eqF, lt0F, le0F, le0T, ge0T, eq0T, eq0F, eqm1F, ten0, m1lt0, eq_self, nI_add, nI_1, sub1, addm1, addm2, subn, cl0, cl1, ncl, ginT, gin0, gin1, ↓reduceIte, if_true, if_false, Nat.add_sub_cancel, obe, ↓gle, true_or, or_true, ↓(bnd hn), ↓(bnd ho), ↓(bnd hp), h9, ↓(bnd hv)]
theorem used_pair (hn : mX6_now cp A (nI n) = some (A, nI m)) (ho : mX6_hasOwn cp fu A (nI m) = some (A, 1)) (hp : mX6_isPair cp A (nI m) = some (A, 1)) (hm : m < cp) (hcp : cp ≤ 8000) (hi : A 186 m = nI i) (h1 : rec cp A (nI i) (nI fm) = some (A1, (cp1, k1, n1), nI r1)) (hm1 : m < cp1) (hcp1 : cp1 ≤ 8000) (hj : A1 187 m = nI j) (hd : A1 185 m = nI d)
    (h2 : rec cp1 A1 (nI j) (nI fm) = some (A2, (cp2, k2, n2), nI r2)) (h3 : mX6_node N cp2 A2 (nI d) (nI r1) (nI r2) = some (A3, (cp3, k3, n3), nI r3)) :
    mX6_used_b0 N cp 0 0 rec fu A (nI n) (nI fm) = some (A3, (cp3, 0 + k1 + k2 + k3, 0 + n1 + n2 + n3), nI r3) := by
  unfold mX6_used_b0 mX6_used_b35 mX6_used_b57 mX6_used_b60
  simp (disch := omega) only [lq2, lq3, lq4, lq5, lq6, lq7, lq8, lq9, lq10, lq11, lq40, lq59, lq60, lq61, lq100, lq500, lq2600, lq5208, lq1000000, ltT, ltF, leT, leF, eqT, eqF, lt0F, le0F, le0T, ge0T, eq0T, eq0F, eqm1F, ten0, m1lt0, eq_self, nI_add, nI_1, sub1, addm1, addm2, subn, cl0, cl1, ncl, ginT, gin0, gin1, ↓reduceIte, if_true, if_false, Nat.add_sub_cancel, obe, ↓gle, true_or, or_true, ↓(bnd hn), ↓(bnd ho), ↓(bnd hp), hi, h1, hj, hd, h2, h3]
end U6
theorem m1lt {n : Nat} (h : n ≤ 8000) : ((-1 : Int32) < nI n) = True := by
  refine eq_true ?_
  rw [Int32.lt_iff_toInt_lt, nI_toInt (by omega), show (-1 : Int32).toInt = -1 by decide]
  omega
def codesU (A : gM) (fm : Nat) (e : Nat → Rw) (R : Rw) : Prop := ∀ c ∈ R, (c < 4 ∧ e c = [c]) ∨ (10 ≤ c ∧ Ty (e c) ∧ ((∃ v, e c = [10 + v] ∧ v < fm ∧ ¬ A 188 v = 0) ∨ ¬ ownIn A (e c)))
theorem Ty_codesU {A : gM} {fm : Nat} {e : Nat → Rw} {R : Rw} (h : codesU A fm e R) (hR : Ty R) : Ty (subE e R) :=
  Ty_subE (fun c hc q => (h c hc).elim (fun z => z.2) fun z => by omega) (fun c hc q => (h c hc).elim (fun z => by omega) fun z => z.2.1) hR
theorem codesU_fm {A : gM} {fm : Nat} {e : Nat → Rw} {R : Rw} (h : codesU A fm e R) {v : Nat} (hv : 10 + v ∈ subE e R) (ho : ¬ A 188 v = 0) : v < fm := by
  obtain ⟨c, hc, hv⟩ := subE_mem.mp hv
  rcases h c hc with ⟨q1, q2⟩ | ⟨q1, q2, ⟨w, q3, q4, q5⟩ | q3⟩
  · rw [q2, List.mem_singleton] at hv; omega
  · rw [q3, List.mem_singleton] at hv
    have : v = w := by omega
    rw [this]; exact q4
  · exact absurd ⟨v, hv, ho⟩ q3
theorem abv_cg {T T' : Nat → Rw} {Q : Nat → Prop} {n d : Nat} (h : ∀ k, Q k → T' k = T k) (hn : T' n = T n) (ha : abv T Q n d) : abv T' Q n d := by
  obtain ⟨K, h1, h2, h3⟩ := ha
  refine ⟨K, h1, h2, fun k hk => ?_⟩
  obtain ⟨q, x, y, hx, e⟩ := h3 k hk
  exact ⟨q, x, y, hx, by rw [h k q, hn]; exact e⟩
def UL (N b fm : Nat) (S : List Nat) (f : Nat) : Prop := ∀ (cp : Nat) (A : gM) (u : Nat) (T : Nat → Rw) (ch : Nat → Nat) (n d : Nat) (R : Rw) (e : Nat → Rw), rW A cp b u T ch → fm ≤ u → reg A (fun x => b ≤ x ∧ x < fm) S → (∀ k ∈ S, k < fm) → b ≤ n ∧ n < fm → freshI A fm u T → abv T (fun k => k ∈ S) n d → S.length + 1 < f + d → Ty R → T n = subE e R → codesU A fm e R → u + R.length ≤ 8000 →
    ∃ A' cp' k nn u' T' ch' r, mX6_used N f cp A (nI n) (nI fm) = some (A', (cp', k, nn), nI r) ∧ cost cp cp' k nn ∧ rW A' cp' b u' T' ch' ∧ u ≤ u' ∧ u' ≤ u + R.length ∧ b ≤ r ∧ r < u' ∧ (∀ m, m < u → T' m = T m) ∧ freshI A' fm u' T' ∧ offU A A' u fm ∧ T' r = subE (inst A') (T n) ∧
      (∀ v, 10 + v ∈ T n → ¬ A 188 v = 0 → nw A' fm v) ∧ (∀ v, v < fm → nw A fm v → A' 189 v = A 189 v) ∧ 2 * (prs A' b u').length + 1 ≤ 2 * (prs A b u).length + R.length ∧ ∀ x, u ≤ x → x < u' → A' 188 x = 0
theorem own_same {A A' : gM} {u fm : Nat} (o : offU A A' u fm) {v : Nat} (hv : v < u) : A' 188 v = A 188 v := o 188 v (by omega) (by omega)
theorem inst_keep {A A' : gM} {r : Rw} (h8 : ∀ v, 10 + v ∈ r → A' 188 v = A 188 v) (h9 : ∀ v, 10 + v ∈ r → ¬ A 188 v = 0 → A' 189 v = A 189 v) : subE (inst A') r = subE (inst A) r := by
  refine subE_cg fun c hc => ?_
  unfold inst
  by_cases q : 10 ≤ c
  · have hc' : 10 + (c - 10) ∈ r := by rw [show 10 + (c - 10) = c by omega]; exact hc
    rw [h8 _ hc']
    by_cases p : A 188 (c - 10) = 0
    · rw [if_neg (fun z => z.2 p), if_neg (fun z => z.2 p)]
    · rw [if_pos ⟨q, p⟩, if_pos ⟨q, p⟩, h9 _ hc' p]
  · rw [if_neg (fun z => q z.1), if_neg (fun z => q z.1)]
theorem codesU_keep {A A' : gM} {fm : Nat} {e : Nat → Rw} {R : Rw} (h8 : ∀ v, 10 + v ∈ subE e R → A' 188 v = A 188 v) (h : codesU A fm e R) : codesU A' fm e R := by
  intro c hc
  have sub : ∀ v, 10 + v ∈ e c → A' 188 v = A 188 v := fun v hv => h8 v (subE_mem.mpr ⟨c, hc, hv⟩)
  rcases h c hc with q | ⟨q1, q2, q3⟩
  · exact Or.inl q
  · refine Or.inr ⟨q1, q2, ?_⟩
    rcases q3 with ⟨v, z1, z2, z3⟩ | q3
    · exact Or.inl ⟨v, z1, z2, by rw [sub v (by rw [z1]; exact List.mem_singleton.mpr rfl)]; exact z3⟩
    · refine Or.inr fun ⟨v, z1, z2⟩ => q3 ⟨v, z1, by rw [sub v z1] at z2; exact z2⟩
theorem reg_keep {A A' : gM} {P : Nat → Prop} {S : List Nat} {u : Nat} (hP : ∀ n, P n → n < u) (h : reg A P S) (o : ∀ a n, a = 185 ∨ a = 186 ∨ a = 187 → n < u → A' a n = A a n) : reg A' P S := by
  intro n hn
  have := hP n hn
  rw [o 185 n (by omega) this, o 186 n (by omega) this, o 187 n (by omega) this]
  exact h n hn
theorem offU_tr {A B C : gM} {u v fm : Nat} (huv : u ≤ v) (h1 : offU A B u fm) (h2 : offU B C v fm) : offU A C u fm := fun a b q1 q2 => (h2 a b q1 (by omega)).trans (h1 a b q1 q2)
theorem rW_189 {A : gM} {cp b u m w : Nat} {T : Nat → Rw} {ch : Nat → Nat} (h : rW A cp b u T ch) (hm : m < u) (hw : w < u) : rW (g_up A 189 m (nI w)) cp b u T ch := by
  have g : ∀ a x, a ≠ 189 → g_up A 189 m (nI w) a x = A a x := fun a x q => up_c q
  have pe : prs (g_up A 189 m (nI w)) b u = prs A b u := prs_off fun n _ => g 185 n (by omega)
  refine ⟨⟨by rw [g 183 3 (by omega)]; exact h.1.1, h.1.2.1, h.1.2.2.1, fun n hn => ?_, fun i hi => by rw [g 188 i (by omega)]; exact h.1.2.2.2.2.1 i hi, fun n hn => ?_⟩, ?_, fun n hn => ?_, h.2.2.2⟩
  · have := h.1.2.2.2.1 n hn
    unfold rN at this ⊢
    rw [g 185 n (by omega), g 186 n (by omega), g 187 n (by omega)]; exact this
  · have e : rG (g_up A 189 m (nI w)) u = rG A u := by
      unfold rG
      have g5 : g_up A 189 m (nI w) 185 = A 185 := g_up_cell (by omega)
      have g6 : g_up A 189 m (nI w) 186 = A 186 := g_up_cell (by omega)
      rw [g5, g6]
    rw [e]; exact h.1.2.2.2.2.2 n hn
  · unfold RG; rw [pe]
    exact reg_keep (u := u) (fun n hn => hn.2) h.2.1 fun a n ha _ => g a n (by omega)
  · by_cases e : n = m
    · subst e; exact Or.inr ⟨w, hw, up_s⟩
    · rw [up_p e]; exact h.2.2.1 n hn
theorem used_ok {N b fm : Nat} {S : List Nat} : ∀ f, UL N b fm S f
  | 0 => fun cp A u T ch n d R e _ _ _ _ _ _ ha hf => by have := abv_le ha S fun k hk => hk; omega
  | f + 1 => by
    intro cp A u T ch n d R e h hfu hr hS hn hfr ha hf hR hTn hcod hu8
    have hu := h.1.2.2.1
    have hcp := okc_le h.1.2.1
    have hP : ∀ x, b ≤ x ∧ x < fm → x < u := fun x hx => by omega
    have hTy := rS_Ty h.1
    have hRpos : 1 ≤ R.length := by
      have := Ty_ne hR
      cases R with
      | nil => exact absurd rfl this
      | cons c R => simp
    obtain ⟨m, x, hm, hPm, xb, hk, hnow, hT, hfm, hcase⟩ := now_kind h.1 hr hP (n := n) hn
    have hown := hasOwn_ok h.1 hr hP f m d hPm (abv_same hT.symm ha) (by omega)
    show ∃ A' cp' k nn u' T' ch' r, mX6_used_b0 N cp 0 0 (mX6_used N f) f A (nI n) (nI fm) = _ ∧ _
    rcases hown with ⟨ho, hoT⟩ | ⟨ho, hoT⟩
    · rcases hcase with ⟨h2, hTm⟩ | ⟨rfl, hl, hTm⟩ | ⟨h2, i, j, hPi, hPj, hi, hj, hmS, hl, hr2, hTm⟩
      · obtain ⟨v, hv, -⟩ := hoT
        rw [hTm, List.mem_singleton] at hv; omega
      · have hp0 := isPair6F (cp := cp) (A := A) (n := m) (by omega) (by omega) hk (by omega) (by omega) (by omega)
        have hmo : ¬ A 188 m = 0 := by
          obtain ⟨v, hv, hv2⟩ := hoT
          rw [hTm, List.mem_singleton] at hv
          have : v = m := by omega
          subst this; exact hv2
        have isv : ∀ v, 10 + v ∈ T n → v = m := fun v hv => by rw [← hT, hTm, List.mem_singleton] at hv; omega
        by_cases q : nw A fm m
        · obtain ⟨w, w1, w2, w3⟩ := q
          have hw := hfr.1 m hPm.2
          have hwu : w < u ∧ T w = [10 + w] := by
            rcases hw with z | ⟨w', z1, z2, z3⟩
            · rw [w3, eqm1F (by omega)] at z; exact absurd z id
            · rw [w3, neq (by omega) (by omega)] at z2; subst z2; exact ⟨z1, (z3 w1).1⟩
          refine ⟨A, cp, 0, 0, u, T, ch, w, used_old hnow ho hp0 (by omega) (by omega) w3 w1 w2, cost_rfl h.1.2.1, h, by omega, by omega, by omega, hwu.1, fun _ _ => rfl, hfr, fun _ _ _ _ => rfl, ?_, fun v hv hv2 => by rw [isv v hv]; exact ⟨w, w1, w2, w3⟩, fun _ _ _ => rfl, by omega, fun x hx1 hx2 => by omega⟩
          rw [← hT, hTm, hwu.2, subE_one]
          unfold inst
          rw [if_pos ⟨by omega, by rw [show 10 + m - 10 = m by omega]; exact hmo⟩, show 10 + m - 10 = m by omega, w3, ncl (by omega)]
        · have h9 : (A 189 m < nI fm) = True := by
            rcases hfr.1 m hPm.2 with z | ⟨w', z1, z2, -⟩
            · rw [z]; exact m1lt (by omega)
            · rw [z2]
              by_cases z3 : fm ≤ w'
              · exact absurd ⟨w', z3, by omega, z2⟩ q
              · exact ltT (by omega) (by omega)
          obtain ⟨A1, cp1, k1, n1, e1, co1, w1, o1, p1, z8, z5, z6⟩ := variable_ok (N := N) h (by omega)
          have hcp1 := okc_le co1.1
          have hA : ∀ a x, a ≠ 189 → g_up A1 189 m (nI u) a x = A1 a x := fun a x q => up_c q
          have ms : m < u := by omega
          refine ⟨g_up A1 189 m (nI u), cp1, 0 + k1, 0 + n1, u + 1, _, _, u, used_new hnow ho hp0 (by omega) (by omega) h9 e1 (by have := w1.1.2.2.1; omega) hcp1.2, by rw [Nat.zero_add, Nat.zero_add]; exact co1, rW_189 w1 (by omega) (by omega), by omega, by omega, by have := h.2.2.2; omega, by omega, fun x hx => at1_n (by omega), ⟨fun v hv => ?_, fun v v' w hv hv' hw hw2 y1 y2 => ?_⟩, fun a x q1 q2 => ?_, ?_, fun v hv hv2 => ?_, fun v hv hv2 => ?_, ?_, fun x hx1 hx2 => ?_⟩
          · by_cases ev : v = m
            · subst ev
              exact Or.inr ⟨u, by omega, up_s, fun _ => ⟨at1_s, by rw [hA 185 u (by omega)]; exact z5, by rw [hA 186 u (by omega)]; exact z6, by rw [hA 188 u (by omega)]; exact z8⟩⟩
            · rw [up_p ev, o1 189 v (by omega) (by omega)]
              rcases hfr.1 v hv with y | ⟨w, y1, y2, y3⟩
              · exact Or.inl y
              · exact Or.inr ⟨w, by omega, y2, fun y4 => ⟨by rw [at1_n (by omega)]; exact (y3 y4).1, by rw [hA 185 w (by omega), o1 185 w (by omega) (by omega)]; exact (y3 y4).2.1, by rw [hA 186 w (by omega), o1 186 w (by omega) (by omega)]; exact (y3 y4).2.2.1, by rw [hA 188 w (by omega), o1 188 w (by omega) (by omega)]; exact (y3 y4).2.2.2⟩⟩
          · have only : ∀ x, x < fm → x ≠ m → g_up A1 189 m (nI u) 189 x ≠ nI u := by
              intro x hx hxm
              rw [up_p hxm, o1 189 x (by omega) (by omega)]
              rcases hfr.1 x hx with y | ⟨w', y1, y2, -⟩
              · rw [y]; intro z; exact absurd z.symm (by rw [eqm1F (by omega)]; exact id)
              · rw [y2, Ne, neq (by omega) (by omega)]; omega
            by_cases e1 : v = m
            · by_cases e2 : v' = m
              · rw [e1, e2]
              · subst e1
                rw [up_s] at y1
                rw [← y1] at y2; exact absurd y2 (only v' hv' e2)
            · by_cases e2 : v' = m
              · subst e2
                rw [up_s] at y2
                rw [← y2] at y1; exact absurd y1 (only v hv e1)
              · rw [up_p e1, o1 189 v (by omega) (by omega)] at y1
                rw [up_p e2, o1 189 v' (by omega) (by omega)] at y2
                exact hfr.2 v v' w hv hv' hw hw2 y1 y2
          · by_cases ea : a = 189
            · subst ea; rw [up_p (by omega), o1 189 x (by omega) (by omega)]
            · rw [hA a x ea, o1 a x q1 (by omega)]
          · rw [at1_s, ← hT, hTm, subE_one]
            unfold inst
            rw [show 10 + m - 10 = m by omega, if_pos ⟨by omega, by rw [hA 188 m (by omega), o1 188 m (by omega) (by omega)]; exact hmo⟩, up_s, ncl (by omega)]
          · rw [isv v hv]; exact ⟨u, by omega, by omega, up_s⟩
          · have : v ≠ m := fun z => q (by rw [← z]; exact hv2)
            rw [up_p this, o1 189 v (by omega) (by omega)]
          · have pe : prs (g_up A1 189 m (nI u)) b (u + 1) = prs A1 b (u + 1) := prs_off fun n _ => hA 185 n (by omega)
            rw [pe, p1]; omega
          · have : x = u := by omega
            subst this; rw [hA 188 x (by omega)]; exact z8
      · have hp1 := isPair6T (cp := cp) (A := A) (n := m) (by omega) (by omega) hk h2
        have hTn' : x :: (T i ++ T j) = subE e R := by rw [← hTm, hT, hTn]
        have shape : ∃ R1 R2, Ty R1 ∧ Ty R2 ∧ R = x :: (R1 ++ R2) ∧ T i = subE e R1 ∧ T j = subE e R2 := by
          rcases Ty_cases hR with ⟨c, hc, rfl⟩ | ⟨c, R1, R2, hc, t1, t2, rfl⟩
          · rw [subE_one] at hTn'
            rcases hcod c List.mem_cons_self with ⟨q1, q2⟩ | ⟨q1, q2, ⟨v, q3, -⟩ | q3⟩
            · rw [q2] at hTn'
              have := (List.cons.inj hTn').2
              exact absurd (List.append_eq_nil_iff.mp this).1 (Ty_ne (hTy i hi))
            · rw [q3] at hTn'
              have := (List.cons.inj hTn').2
              exact absurd (List.append_eq_nil_iff.mp this).1 (Ty_ne (hTy i hi))
            · rw [← hTn', ← hTm] at q3; exact absurd hoT q3
          · have hcl := ar_low hc
            rcases hcod c List.mem_cons_self with ⟨q1, q2⟩ | ⟨q1, -⟩
            · rw [subE_cons, q2, subE_app] at hTn'
              have z := List.cons.inj hTn'
              have tt := Ty_inj (hTy i hi) (Ty_codesU (fun d hd => hcod d (List.mem_cons_of_mem _ (List.mem_append.mpr (Or.inl hd)))) t1) z.2
              exact ⟨R1, R2, t1, t2, by rw [z.1], tt.1, tt.2⟩
            · omega
        obtain ⟨R1, R2, t1, t2, rfl, hTi, hTj⟩ := shape
        have hlen : (x :: (R1 ++ R2)).length = R1.length + R2.length + 1 := by simp
        rw [hlen] at hu8 ⊢
        have cd1 : codesU A fm e R1 := fun d hd => hcod d (List.mem_cons_of_mem _ (List.mem_append.mpr (Or.inl hd)))
        have cd2 : codesU A fm e R2 := fun d hd => hcod d (List.mem_cons_of_mem _ (List.mem_append.mpr (Or.inr hd)))
        obtain ⟨A1, cp1, k1, n1, u1, T1, ch1, r1, a1, a2, a3, a4, a5, a6, a7, a8, a9, a10, a11, a12, a13, a14, a15⟩ := used_ok f cp A u T ch i (d + 1) R1 e h hfu hr hS hPi hfr (abv_down (x := [x]) ha hmS hT.symm (by simp) (by rw [hTm]; rfl)) (by omega) t1 hTi cd1 (by omega)
        have in8 : ∀ q, q < u → ∀ v, 10 + v ∈ T q → v < u := fun q hq v hv => by
          rcases rS_code h.1 q hq (10 + v) hv with z | ⟨v', z1, z2, -⟩ <;> omega
        have hcp1 := okc_le a2.1
        have hu1 := a3.1.2.2.1
        obtain ⟨A2, cp2, k2, n2, u2, T2, ch2, r2, b1, b2, b3, b4, b5, b6, b7, b8, b9, b10, b11, b12, b13, b14, b15⟩ := used_ok f cp1 A1 u1 T1 ch1 j (d + 1) R2 e a3 (by omega) (reg_keep hP hr fun a q ha hq => a10 a q (by omega) (by omega)) hS hPj a9
          (abv_cg (fun k hk => a8 k (by have := hS k hk; omega)) (a8 j hj) (abv_down (x := x :: T i) (y := []) (i := j) ha hmS hT.symm (by simp) (by rw [hTm]; simp))) (by omega) t2 (by rw [a8 j hj, hTj]) (codesU_keep (fun v hv => own_same a10 (in8 j hj v (by rw [hTj]; exact hv))) cd2) (by omega)
        obtain ⟨A3, cp3, k3, n3, c1, c2, c3, c4, c5, c6⟩ := pairN_ok (N := N) b3 (by omega) h2 (i := r1) (j := r2) (by omega) (by omega)
        have hu2 := b3.1.2.2.1
        have hcp2 := okc_le b2.1
        have s9 : ∀ v, v < fm → A3 189 v = A2 189 v := fun v hv => c4 189 v (by omega) (by omega)
        have nw3 : ∀ v, v < fm → nw A2 fm v → nw A3 fm v := fun v hv ⟨w, y1, y2, y3⟩ => ⟨w, y1, y2, by rw [s9 v hv]; exact y3⟩
        have nw2 : ∀ v, v < fm → nw A1 fm v → nw A2 fm v := fun v hv q => by
          have := b13 v hv q
          obtain ⟨w, y1, y2, y3⟩ := q
          exact ⟨w, y1, y2, by rw [this]; exact y3⟩
        have fmi : ∀ v, 10 + v ∈ T i → ¬ A 188 v = 0 → v < fm := fun v hv ho => codesU_fm cd1 (by rw [← hTi]; exact hv) ho
        have fmj : ∀ v, 10 + v ∈ T j → ¬ A 188 v = 0 → v < fm := fun v hv ho => codesU_fm cd2 (by rw [← hTj]; exact hv) ho
        have e18 : ∀ v, v < u → A1 188 v = A 188 v := fun v hv => a10 188 v (by omega) (by omega)
        have e28 : ∀ v, v < u1 → A2 188 v = A1 188 v := fun v hv => b10 188 v (by omega) (by omega)
        have e38 : ∀ v, v < u2 → A3 188 v = A2 188 v := fun v hv => c4 188 v (by omega) (by omega)
        refine ⟨A3, cp3, 0 + k1 + k2 + k3, 0 + n1 + n2 + n3, u2 + 1, _, _, u2, used_pair hnow ho hp1 (by omega) (by omega) hl a1 (by omega) hcp1.2 (by rw [a10 187 m (by omega) (by omega)]; exact hr2) (by rw [a10 185 m (by omega) (by omega)]; exact hk) b1 c1, cost_tr (cost_tr (by rw [Nat.zero_add, Nat.zero_add]; exact a2) b2) c2, c3, by omega, by omega, by omega, by omega, fun q hq => by rw [at1_n (by omega), b8 q (by omega), a8 q hq], ⟨fun v hv => ?_, fun v v' w hv hv' hw hw2 y1 y2 => ?_⟩, fun a q z1 z2 => ?_, ?_, fun v hv hv2 => ?_, fun v hv hv2 => ?_, by omega, fun q hq1 hq2 => ?_⟩
        · rw [s9 v hv]
          rcases b9.1 v hv with y | ⟨w, y1, y2, y3⟩
          · exact Or.inl y
          · exact Or.inr ⟨w, by omega, y2, fun y4 => ⟨by rw [at1_n (by omega)]; exact (y3 y4).1, by rw [c4 185 w (by omega) (by omega)]; exact (y3 y4).2.1, by rw [c4 186 w (by omega) (by omega)]; exact (y3 y4).2.2.1, by rw [c4 188 w (by omega) (by omega)]; exact (y3 y4).2.2.2⟩⟩
        · rw [s9 v hv] at y1
          rw [s9 v' hv'] at y2
          exact b9.2 v v' w hv hv' hw hw2 y1 y2
        · rw [c4 a q z1 (by omega), b10 a q z1 (by omega), a10 a q z1 z2]
        · rw [at1_s, ← hT, hTm, subE_cons, subE_app]
          have i0 : inst A3 x = [x] := if_neg fun z => by omega
          rw [i0, b8 r1 a7, a11, b11, a8 j hj]
          rw [inst_keep (A := A1) (A' := A3) (r := T i) (fun v hv => by have := in8 i hi v hv; rw [e38 v (by omega), e28 v (by omega)]) (fun v hv ho => by
            have z := in8 i hi v hv
            rw [e18 v z] at ho
            have z2 := fmi v hv ho
            rw [s9 v z2, b13 v z2 (a12 v hv ho)])]
          rw [inst_keep (A := A2) (A' := A3) (r := T j) (fun v hv => by have := in8 j hj v hv; rw [e38 v (by omega)]) (fun v hv ho => by
            have z := in8 j hj v hv
            rw [e28 v (by omega), e18 v z] at ho
            rw [s9 v (fmj v hv ho)])]
          rfl
        · rw [← hT, hTm] at hv
          rcases List.mem_cons.mp hv with hv | hv
          · omega
          · rcases List.mem_append.mp hv with hv | hv
            · have z2 := fmi v hv hv2
              exact nw3 v z2 (nw2 v z2 (a12 v hv hv2))
            · have z := in8 j hj v hv
              exact nw3 v (fmj v hv hv2) (b12 v (by rw [a8 j hj]; exact hv) (by rw [e18 v z]; exact hv2))
        · have z1 := a13 v hv hv2
          have z2 : nw A1 fm v := by
            obtain ⟨w, y1, y2, y3⟩ := hv2
            exact ⟨w, y1, y2, by rw [z1]; exact y3⟩
          rw [s9 v hv, b13 v hv z2, z1]
        · by_cases q1 : q < u1
          · rw [e38 q (by omega), e28 q q1]; exact a15 q hq1 q1
          · by_cases q2 : q < u2
            · rw [e38 q q2]; exact b15 q (by omega) q2
            · have : q = u2 := by omega
              subst this; exact c6
    · refine ⟨A, cp, 0, 0, u, T, ch, m, used_no hnow ho, cost_rfl h.1.2.1, h, by omega, by omega, hPm.1, hm, fun _ _ => rfl, hfr, fun _ _ _ _ => rfl, ?_, fun v hv hv2 => ?_, fun _ _ _ => rfl, by omega, fun x hx1 hx2 => by omega⟩
      · rw [← hT, inst_no hoT]
      · rw [← hT] at hv; exact absurd ⟨v, hv, hv2⟩ hoT
