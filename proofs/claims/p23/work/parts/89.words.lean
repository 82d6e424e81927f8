/-! THE LAW'S WORDS: below, cell, size -/
theorem mask_ok (x : Int32) : ∃ t : Nat, t < 2 ^ 31 ∧ x &&& 2147483647 = nI t := by
  refine nI_of fun h => ?_
  rw [Int32.lt_iff_toInt_lt] at h
  have e : (x &&& 2147483647).toInt = (x &&& 2147483647).toBitVec.toInt := rfl
  have hm : (x &&& 2147483647).toBitVec.msb = false := by
    rw [Int32.toBitVec_and, BitVec.msb_and, show (2147483647 : Int32).toBitVec.msb = false by decide, Bool.and_false]
  rw [e, BitVec.toInt_eq_msb_cond, hm] at h
  have z : (0 : Int32).toInt = 0 := by decide
  rw [z] at h
  simp only [Bool.false_eq_true, if_false] at h
  omega
theorem nI_div {t m : Nat} (ht : t < 2 ^ 31) (hm : m < 2 ^ 31) : nI t / nI m = nI (t / m) := by
  have hq : t / m < 2 ^ 31 := Nat.lt_of_le_of_lt (Nat.div_le_self t m) ht
  refine Int32.toInt_inj.mp ?_
  rw [Int32.toInt_div_of_ne_right _ _ (fun q => by have := congrArg Int32.toInt q; rw [nI_toInt hm, show (-1 : Int32).toInt = -1 by decide] at this; omega), nI_toInt ht, nI_toInt hm, nI_toInt hq]
  rfl
theorem nI_mul {a b : Nat} : nI a * nI b = nI (a * b) := (Int32.ofNat_mul a b).symm
theorem nI_mod {t m : Nat} (ht : t < 2 ^ 31) (hm : m < 2 ^ 31) : nI t - nI t / nI m * nI m = nI (t % m) := by
  rw [nI_div ht hm, nI_mul, subn (Nat.div_mul_le_self t m)]
  congr 1
  have := Nat.div_add_mod t m
  rw [Nat.mul_comm] at this
  omega
theorem below_ok {A : gM} (x : Int32) {m : Nat} (h1 : 1 ≤ m) (h2 : m ≤ 2000000) : ∃ j, j < m ∧ mL_below A x (nI m) = some (A, nI j) := by
  obtain ⟨t, ht, e⟩ := mask_ok x
  refine ⟨t % m, Nat.mod_lt _ h1, ?_⟩
  unfold mL_below mL_below_b0
  rw [if_pos (by rw [eq0F (by omega) h2]; exact not_false), e, nI_mod ht (by omega)]
theorem cell_ok {xs : Nat → Int32} {L N : Nat} {ln : Nat → Nat} {A : gM} {i : Nat} (hL : L ≤ 260) (hi : i ≤ 1000) : ∃ r, mL_cell xs L N ln A (nI i) = some (N, ln, A, r) := by
  unfold mL_cell mL_cell_b0 mL_cell_b18
  by_cases q : L ≤ i
  · exact ⟨_, by rw [if_pos (show Int32.ofNat L ≤ nI i from nI_le q (by omega)), if_pos ⟨Nat.le_refl _, Nat.le_refl _⟩]⟩
  · exact ⟨_, by rw [if_neg (show ¬ Int32.ofNat L ≤ nI i from nI_ge (by omega) (by omega)), ginT (by omega) (by omega), if_pos rfl, if_pos ⟨Nat.le_refl _, Nat.le_refl _⟩]⟩
theorem cpd {α β : Type} {o : Option (Nat × (Nat → Nat) × gM × α)} {f : Nat → (Nat → Nat) → gM → α → Option β} {N : Nat} {ln : Nat → Nat} {A : gM} {r : α} (h : o = some (N, ln, A, r)) : g_cp o f = f N ln A r := by unfold g_cp; exact bnd h
theorem cxd {β : Type} {o : Option (gM × (Int32 ⊕ Nat))} {f : gM → Int32 → Option β} {A : gM} {r : Int32} (h : o = some (A, .inl r)) : g_cx o f = f A r := by unfold g_cx; exact bnd h
theorem vaS {f : Nat → Nat} {k j v : Nat} (h : j = k) : va_up f k v j = v := by subst h; exact if_pos rfl
theorem vaN {f : Nat → Nat} {k j v : Nat} (h : j ≠ k) : va_up f k v j = f j := if_neg h
/-- the parts that the law keeps, in cell r: n rows of five -/
def PRow (A : gM) (ln : Nat → Nat) (N r n : Nat) (c : Nat → Nat) (F : Nat → Nat → Int32) : Prop := N ≤ 10000 ∧ n ≤ 41 ∧ r < N ∧ 183 ≤ r ∧ ln r = 1000 + n ∧ ∀ j, j < n → A r j = nI (c j) ∧ c j < r ∧ 183 ≤ c j ∧ ln (c j) = 5 ∧ ∀ w, w < 5 → A (c j) w = F j w
def szE (F : Nat → Nat → Int32) (sz : Nat → Nat) (n : Nat) : Prop := ∀ p, p < n → (kid p (F p 1) ∧ kid p (F p 2) ∧ kid p (F p 3)) ∧ sz p = 1 + szk sz (F p 1) + szk sz (F p 2) + szk sz (F p 3) ∧ sz p ≤ 1000
section SZ
variable {xs : Nat → Int32} {L N r n : Nat} {ln : Nat → Nat} {A : gM} {c : Nat → Nat} {F : Nat → Nat → Int32} {sz : Nat → Nat}
theorem size_in {rec : Nat → (Nat → Nat) → gM → Nat → Int32 → Option (Nat × (Nat → Nat) × gM × Int32)} {K : Nat → (Nat → Nat) → Nat → Nat → gM → Nat → Int32 → Int32 → Int32 → Option (Nat × (Nat → Nat) × gM × Int32)} {p w m : Nat} (h : PRow A ln N r n c F) (hp : p < n) (hw : 1 ≤ w) (hw4 : w < 4) (hx : kid p (F p w)) (hm : m ≤ 3001) (hb : szk sz (F p w) ≤ 1000)
    (hr : ∀ d, d < p → rec N ln A r (nI d) = some (N, ln, A, nI (sz d))) : mL_size_b4 xs L rec K N ln 0 0 A r (nI p) (nI m) (nI w) = K N ln 0 0 A r (nI p) (nI (m + szk sz (F p w))) (nI (w + 1)) := by
  obtain ⟨h1, h2, h3, h4, h5, h6⟩ := h
  obtain ⟨a1, a2, a3, a4, a5⟩ := h6 p hp
  have g1 : (r < N ∧ 183 ≤ r ∧ 1000 ≤ ln r) ∧ g_in (nI p) (ln r - 1000) = true ∧ ¬ (A r (nI p).toNatClampNeg < 0 ∨ r ≤ (A r (nI p).toNatClampNeg).toNatClampNeg) := by
    rw [ncl (by omega), a1, ncl (by omega)]
    exact ⟨⟨h3, h4, by omega⟩, ginT (by omega) (by omega), fun z => z.elim (nlt0 (by omega)) (by omega)⟩
  have g2 : (c p < N ∧ 183 ≤ c p ∧ ln (c p) < 1000) ∧ g_in (nI w) (ln (c p)) = true := ⟨⟨by omega, a3, by omega⟩, ginT (by omega) (by omega)⟩
  have e1 : (A r (nI p).toNatClampNeg).toNatClampNeg = c p := by rw [ncl (by omega), a1, ncl (by omega)]
  have e2 : A (c p) (nI w).toNatClampNeg = F p w := by rw [ncl (by omega)]; exact a5 w (by omega)
  have g3 := g1
  rw [e1] at g3
  unfold mL_size_b4 mL_size_b29
  rw [lq4, if_neg (by rw [nle (by omega) (by omega)]; omega), if_pos g1, gle, e1, if_pos g2, e2]
  rcases hx with e | ⟨d, hd, e⟩
  · rw [e, if_pos (by decide), szk_n, gle, nI_1]; rfl
  · rw [e, if_neg (nlt0 (by omega)), if_pos g3, gle, if_pos g2, e2, e, if_pos ⟨⟨by omega, by omega⟩, h3⟩, cpd (hr d hd), if_pos (Nat.le_refl _), gle, gle, nI_add, nI_1, szk_c (by omega)]
theorem size_all (h : PRow A ln N r n c F) (hs : szE F sz n) : ∀ (f p : Nat), p < n → p < f → mL_size xs L f N ln A r (nI p) = some (N, ln, A, nI (sz p))
  | 0, p, _, hf => by omega
  | f + 1, p, hp, hf => by
    obtain ⟨⟨k1, k2, k3⟩, e, hb⟩ := hs p hp
    have hr : ∀ d, d < p → mL_size xs L f N ln A r (nI d) = some (N, ln, A, nI (sz d)) := fun d hd => size_all h hs f d (by omega) (by omega)
    obtain ⟨g, hg⟩ : ∃ g, gF = g + 4 := ⟨999998, by unfold gF; rfl⟩
    have a := size_in (xs := xs) (L := L) (sz := sz) (m := 1) (w := 1) (K := mL_size_L4 xs L (mL_size xs L f) (g + 3)) h hp (by omega) (by omega) k1 (by omega) (by omega) hr
    have b := size_in (xs := xs) (L := L) (sz := sz) (m := 1 + szk sz (F p 1)) (w := 2) (K := mL_size_L4 xs L (mL_size xs L f) (g + 2)) h hp (by omega) (by omega) k2 (by omega) (by omega) hr
    have d := size_in (xs := xs) (L := L) (sz := sz) (m := 1 + szk sz (F p 1) + szk sz (F p 2)) (w := 3) (K := mL_size_L4 xs L (mL_size xs L f) (g + 1)) h hp (by omega) (by omega) k3 (by omega) (by omega) hr
    show mL_size_L4 xs L (mL_size xs L f) gF N ln 0 0 A r (nI p) 1 1 = _
    rw [hg, one_nI]
    refine a.trans (b.trans (d.trans ?_))
    show mL_size_b4 xs L (mL_size xs L f) (mL_size_L4 xs L (mL_size xs L f) g) N ln 0 0 A r (nI p) (nI (1 + szk sz (F p 1) + szk sz (F p 2) + szk sz (F p 3))) (nI (3 + 1)) = _
    unfold mL_size_b4
    rw [lq4, if_pos (by rw [nle (by omega) (by omega)]; omega), if_pos ⟨Nat.le_refl _, Nat.le_refl _⟩, e]
end SZ
