/-! A PART MORE -/
def BI (A : gM) (ln : Nat → Nat) (N r n s : Nat) : Prop := ∃ c F sz dp res, IC A n s F sz dp res ∧ PRow A ln N r n c F ∧ szE F sz n ∧ ∀ p, p < n → sz p ≤ 24 ∧ (F p 0 = nI 2 → ∃ l, l < 3 ∧ F p 4 = nI l)
theorem below2 {A : gM} (x : Int32) : ∃ j, j < 2 ∧ mL_below A x 2 = some (A, nI j) := by rw [lq2]; exact below_ok x (by omega) (by omega)
theorem below3 {A : gM} (x : Int32) : ∃ j, j < 3 ∧ mL_below A x 3 = some (A, nI j) := by rw [lq3]; exact below_ok x (by omega) (by omega)
theorem below6 {A : gM} (x : Int32) : ∃ j, j < 6 ∧ mL_below A x 6 = some (A, nI j) := by rw [lq6]; exact below_ok x (by omega) (by omega)
def parN (so : Nat) : Nat := if so < 3 then 0 else if so = 3 ∨ so = 7 then 1 else if so = 8 then 3 else 2
section MO
variable {xs : Nat → Int32} {L N r n ofc pc md kk nn : Nat} {ln : Nat → Nat} {x : Int32}
theorem of_L (h1 : ofc < N) (h2 : 183 ≤ ofc) (h3 : ln ofc = 3) (hn1 : 1 ≤ n) (hn : n ≤ 40) (hk : kk ≤ 20 ∧ nn ≤ 300) : ∀ (f i : Nat) (A : gM), i ≤ 3 → 3 - i < f → (∀ j, j < i → ∃ c, c < n ∧ A ofc j = nI c) → ∃ A', mL_more_L11 xs L f N ln kk nn A r x (nI n) ofc (nI i) = mL_more_b74 xs L N ln kk nn A' r x (nI n) ofc ∧ (∀ j, j < 3 → ∃ c, c < n ∧ A' ofc j = nI c) ∧ ∀ a w, a ≠ ofc → A' a w = A a w
  | 0, i, A, _, hf, _ => by omega
  | f + 1, i, A, hi, hf, hc => by
    show ∃ A', mL_more_b11 xs L (mL_more_L11 xs L f) N ln kk nn A r x (nI n) ofc (nI i) = _ ∧ _
    unfold mL_more_b11
    by_cases e : i = 3
    · subst e
      exact ⟨A, by rw [if_pos (by rw [lq3, nle (by omega) (by omega)]; omega)], hc, fun _ _ _ => rfl⟩
    · have put : ∀ c, c < n → ∃ A', mL_more_b67 xs L (mL_more_L11 xs L f) N ln kk nn A r x (nI n) ofc (nI i) ofc (nI i) (nI c) = mL_more_b74 xs L N ln kk nn A' r x (nI n) ofc ∧ (∀ j, j < 3 → ∃ c, c < n ∧ A' ofc j = nI c) ∧ ∀ a w, a ≠ ofc → A' a w = A a w := fun c hcn => by
        obtain ⟨A', q1, q2, q3⟩ := of_L h1 h2 h3 hn1 hn hk f (i + 1) (g_up A ofc i (nI c)) (by omega) (by omega) (fun j hj => by
          by_cases z : j = i
          · subst z; exact ⟨c, hcn, up_s⟩
          · rw [up_p z]; exact hc j (by omega))
        refine ⟨A', ?_, q2, fun a w q => by rw [q3 a w q, up_c q]⟩
        unfold mL_more_b67
        rw [if_pos ⟨⟨h1, h2, by omega⟩, ginT (by omega) (by omega)⟩, gle, gle, ncl (by omega), nI_1, q1]
      obtain ⟨j1, hj1, e1⟩ := below3 (A := A) (x >>> (nI i &&& 31))
      rw [if_neg (by rw [lq3, nle (by omega) (by omega)]; omega), if_neg (by rw [le0F (by omega) (by omega)]; exact not_false), if_pos hk, bnd e1]
      dsimp only
      by_cases z : j1 = 0
      · obtain ⟨j2, hj2, e2⟩ := below_ok (A := A) (x >>> ((2 * nI i) &&& 31)) (m := n) hn1 (by omega)
        rw [if_pos (by rw [z]; exact nI0), if_pos hk, bnd e2]
        exact put j2 hj2
      · have e4 : (if (4 : Int32) < nI n then (4 : Int32) else nI n) = nI (min n 4) := by
          by_cases w : 4 < n
          · rw [if_pos (by rw [lq4, nlt (by omega) (by omega)]; exact w), show min n 4 = 4 by omega, lq4]
          · rw [if_neg (by rw [lq4, nlt (by omega) (by omega)]; exact w), show min n 4 = n by omega]
        obtain ⟨j2, hj2, e2⟩ := below_ok (A := A) (x >>> ((3 * nI i) &&& 31)) (m := min n 4) (by omega) (by omega)
        rw [if_neg (by rw [eq0F (by omega) (by omega)]; exact not_false), if_pos hk, e4, gle, if_pos hk, bnd e2]
        dsimp only
        rw [sub1 hn1, subn (by omega)]
        exact put (n - 1 - j2) (by omega)
theorem more_of {A : gM} {c : Nat → Nat} {F : Nat → Nat → Int32} (h : PRow A ln N r n c F) (hn : n ≤ 40) (hN : N + 5 ≤ 10000) : ∃ A1, mL_more xs L N ln A r x = mL_more_b74 xs L (N + 1) (va_up ln N 3) 1 3 A1 r x (nI n) N ∧ (1 ≤ n → ∀ j, j < 3 → ∃ c, c < n ∧ A1 N j = nI c) ∧ ∀ a w, a ≠ N → A1 a w = A a w := by
  obtain ⟨h1, h2, h3, h4, h5, h6⟩ := h
  have st : mL_more xs L N ln A r x = mL_more_L11 xs L gF (N + 1) (va_up ln N 3) 1 3 (g_row A N (fun _ => 0)) r x (nI n) N 0 := by
    unfold mL_more mL_more_b0
    rw [if_pos ⟨h3, h4, by omega⟩, gle, if_pos ⟨by decide, by decide, h3⟩, gle, gle, gle, h5, show 1000 + n - 1000 = n by omega]
    rfl
  by_cases z : n = 0
  · refine ⟨g_row A N (fun _ => 0), ?_, fun q => by omega, fun a w q => by rw [g_row_n q]⟩
    rw [st]
    obtain ⟨g, hg⟩ : ∃ g, gF = g + 1 := ⟨1000001, by unfold gF; rfl⟩
    rw [hg]
    show mL_more_b11 xs L (mL_more_L11 xs L g) (N + 1) (va_up ln N 3) 1 3 (g_row A N (fun _ => 0)) r x (nI n) N 0 = _
    unfold mL_more_b11
    rw [if_neg (by decide), if_pos (by rw [le0T z]; trivial)]
  · obtain ⟨A1, q1, q2, q3⟩ := of_L (xs := xs) (L := L) (r := r) (x := x) (N := N + 1) (ln := va_up ln N 3) (ofc := N) (n := n) (kk := 1) (nn := 3) (by omega) (by omega) (vaS rfl) (by omega) hn (by omega) gF 0 (g_row A N (fun _ => 0)) (by omega) (by unfold gF; omega) (fun j hj => by omega)
    rw [nI0] at q1
    exact ⟨A1, by rw [st, q1], fun _ => q2, fun a w q => by rw [q3 a w q, g_row_n q]⟩
theorem b74_ok {A : gM} (hn : n ≤ 40) (hk : kk ≤ 20 ∧ nn ≤ 300) : ∃ so, so < 9 ∧ (n = 0 → so < 3) ∧ mL_more_b74 xs L N ln kk nn A r x (nI n) ofc = mL_more_b115 xs L N ln kk nn A r x (nI n) ofc (nI so) := by
  unfold mL_more_b74
  by_cases z : n = 0
  · obtain ⟨j, hj, e⟩ := below3 (A := A) x
    refine ⟨j, by omega, fun _ => hj, ?_⟩
    rw [if_pos (by rw [eq0T z]; trivial), if_pos hk, bnd e]
  · obtain ⟨j1, hj1, e1⟩ := below3 (A := A) (x >>> (5 &&& 31))
    rw [if_neg (by rw [eq0F (by omega) (by omega)]; exact not_false), if_pos hk, bnd e1]
    dsimp only
    by_cases y : j1 = 0
    · obtain ⟨j, hj, e⟩ := below3 (A := A) x
      refine ⟨j, by omega, fun q => absurd q z, ?_⟩
      rw [if_pos (by rw [y]; exact nI0), if_pos hk, bnd e]
    · obtain ⟨j, hj, e⟩ := below6 (A := A) (x >>> (9 &&& 31))
      refine ⟨3 + j, by omega, fun q => absurd q z, ?_⟩
      rw [if_neg (by rw [eq0F (by omega) (by omega)]; exact not_false), if_pos hk, bnd e, lq3, nI_add]
theorem b115_ok {A : gM} {so : Nat} (hso : so < 9) (hN : 183 ≤ N) (hr : r < N) (hof : ofc < N) (hk : kk + 1 ≤ 20 ∧ nn + 5 ≤ 300) : ∃ l A', l < 3 ∧ mL_more_b115 xs L N ln kk nn A r x (nI n) ofc (nI so) = mL_more_b191 xs L (N + 1) (va_up ln N 5) (kk + 1) (nn + 5) A' r x (nI n) ofc (nI so) (nI l) N (nI (parN so)) ∧ (A' N 0 = nI so ∧ A' N 1 = -1 ∧ A' N 2 = -1 ∧ A' N 3 = -1 ∧ A' N 4 = -1) ∧ ∀ a w, a ≠ N → A' a w = A a w := by
  obtain ⟨l, hl, e⟩ := below3 (A := A) (x >>> (4 &&& 31))
  have hg : ∀ w : Int32, g_in w 5 = true → ((N < N + 1 ∧ 183 ≤ N ∧ va_up ln N (5 : Int32).toNatClampNeg N < 1000) ∧ g_in w (va_up ln N (5 : Int32).toNatClampNeg N) = true) := fun w hw => by
    rw [vaS rfl]
    exact ⟨⟨by omega, hN, by decide⟩, hw⟩
  refine ⟨l, g_up (g_up (g_up (g_up (g_up (g_row A N (fun _ => 0)) N 0 (nI so)) N 1 (-1)) N 2 (-1)) N 3 (-1)) N 4 (-1), hl, ?_, ⟨?_, ?_, ?_, ?_, up_s⟩, fun a w q => by rw [up_c q, up_c q, up_c q, up_c q, up_c q, g_row_n q]⟩
  · have c2 : (2 : Int32).toNatClampNeg = 2 := by decide
    have c3 : (3 : Int32).toNatClampNeg = 3 := by decide
    have c4 : (4 : Int32).toNatClampNeg = 4 := by decide
    have c5 : (5 : Int32).toNatClampNeg = 5 := by decide
    unfold mL_more_b115 mL_more_b175
    rw [if_pos (by omega), bnd e]
    dsimp only
    rw [if_pos ⟨by decide, by rw [c5]; exact hk, hr, hof⟩, gle, gle, gle, if_pos (hg 0 (by decide)), gle, if_pos (hg 1 (by decide)), gle, if_pos (hg 2 (by decide)), gle, if_pos (hg 3 (by decide)), gle, if_pos (hg 4 (by decide)), gle, cl0, cl1, c2, c3, c4, c5]
    have z : so = 0 ∨ so = 1 ∨ so = 2 ∨ so = 3 ∨ so = 4 ∨ so = 5 ∨ so = 6 ∨ so = 7 ∨ so = 8 := by omega
    rcases z with rfl | rfl | rfl | rfl | rfl | rfl | rfl | rfl | rfl
    · rw [if_neg (by decide +kernel)]
      have w : nI (parN 0) = 0 := by decide +kernel
      rw [w]
    · rw [if_neg (by decide +kernel)]
      have w : nI (parN 1) = 0 := by decide +kernel
      rw [w]
    · rw [if_neg (by decide +kernel)]
      have w : nI (parN 2) = 0 := by decide +kernel
      rw [w]
    · rw [if_pos (by decide +kernel), if_pos (by decide +kernel)]
      have w : nI (parN 3) = 1 := by decide +kernel
      rw [w]
    · rw [if_pos (by decide +kernel), if_neg (by decide +kernel), if_neg (by decide +kernel), if_neg (by decide +kernel)]
      have w : nI (parN 4) = 2 := by decide +kernel
      rw [w]
    · rw [if_pos (by decide +kernel), if_neg (by decide +kernel), if_neg (by decide +kernel), if_neg (by decide +kernel)]
      have w : nI (parN 5) = 2 := by decide +kernel
      rw [w]
    · rw [if_pos (by decide +kernel), if_neg (by decide +kernel), if_neg (by decide +kernel), if_neg (by decide +kernel)]
      have w : nI (parN 6) = 2 := by decide +kernel
      rw [w]
    · rw [if_pos (by decide +kernel), if_neg (by decide +kernel), if_pos (by decide +kernel)]
      have w : nI (parN 7) = 1 := by decide +kernel
      rw [w]
    · rw [if_pos (by decide +kernel), if_neg (by decide +kernel), if_neg (by decide +kernel), if_pos (by decide +kernel)]
      have w : nI (parN 8) = 3 := by decide +kernel
      rw [w]
  · rw [up_p (by omega), up_p (by omega), up_p (by omega), up_p (by omega), up_s]
  · rw [up_p (by omega), up_p (by omega), up_p (by omega), up_s]
  · rw [up_p (by omega), up_p (by omega), up_s]
  · rw [up_p (by omega), up_s]
def labE (xs : Nat → Int32) (L N : Nat) (ln : Nat → Nat) (kk nn : Nat) (A : gM) (r : Nat) (x : Int32) (n ofc so l pc : Nat) : Option (Nat × (Nat → Nat) × gM × Nat) :=
  if nI so = 2 then mL_more_b239 xs L N ln kk nn A r x (nI n) ofc (nI so) (nI l) pc
  else if nI so = 3 then mL_more_b239 xs L N ln kk nn A r x (nI n) ofc (nI so) (nI l) pc
  else if nI so = 5 then mL_more_b239 xs L N ln kk nn A r x (nI n) ofc (nI so) (nI l) pc
  else mL_more_b245 xs L N ln kk nn A r x (nI n) ofc (nI so) (nI l) pc
theorem par_L {so l m : Nat} (h1 : ofc < N) (h2 : 183 ≤ ofc) (h3 : ln ofc = 3) (h4 : pc < N) (h5 : 183 ≤ pc) (h6 : ln pc = 5) (hne : ofc ≠ pc) (hm : m ≤ 3) : ∀ (f i : Nat) (A : gM), i ≤ m → m - i < f → ∃ A', mL_more_L196 xs L f N ln kk nn A r x (nI n) ofc (nI so) (nI l) pc (nI m) (nI i) = labE xs L N ln kk nn A' r x n ofc so l pc ∧ (∀ j, i ≤ j → j < m → A' pc (1 + j) = A ofc j) ∧ (∀ w, (w < 1 + i ∨ m < w) → A' pc w = A pc w) ∧ ∀ a w, a ≠ pc → A' a w = A a w
  | 0, i, A, _, hf => by omega
  | f + 1, i, A, hi, hf => by
    show ∃ A', mL_more_b196 xs L (mL_more_L196 xs L f) N ln kk nn A r x (nI n) ofc (nI so) (nI l) pc (nI m) (nI i) = _ ∧ _
    unfold mL_more_b196
    by_cases e : i = m
    · subst e
      exact ⟨A, by rw [if_pos (by rw [nle (by omega) (by omega)]; omega)]; rfl, fun j q1 q2 => by omega, fun _ _ => rfl, fun _ _ _ => rfl⟩
    · obtain ⟨A', q1, q2, q3, q4⟩ := par_L (so := so) (l := l) h1 h2 h3 h4 h5 h6 hne hm f (i + 1) (g_up A pc (1 + i) (A ofc i)) (by omega) (by omega)
      refine ⟨A', ?_, fun j z1 z2 => ?_, fun w z => by rw [q3 w (by omega), up_p (by omega)], fun a w z => by rw [q4 a w z, up_c z]⟩
      · rw [if_neg (by rw [nle (by omega) (by omega)]; omega), if_pos ⟨⟨h1, h2, by omega⟩, ginT (by omega) (by omega)⟩, one_nI, nI_add, if_pos ⟨⟨h4, h5, by omega⟩, ginT (by omega) (by omega)⟩, gle, gle, ncl (by omega), ncl (by omega), nI_add, q1]
      · by_cases y : j = i
        · subst y; rw [q3 _ (by omega), up_s]
        · rw [q2 j (by omega) z2, up_c hne]
def labOK (so l : Nat) (v : Int32) : Prop := if so = 2 ∨ so = 3 ∨ so = 5 then v = nI l else if so = 7 then ∃ j, j < 2 ∧ v = nI j else v = -1
theorem lab_ok {A : gM} {so l : Nat} (hso : so < 9) (h4 : pc < N) (h5 : 183 ≤ pc) (h6 : ln pc = 5) (hk : kk ≤ 20 ∧ nn ≤ 300) (hm1 : A pc 4 = -1) : ∃ A', labE xs L N ln kk nn A r x n ofc so l pc = mL_more_b263 xs L N ln kk nn A' r (nI n) ofc (nI so) (nI l) pc ∧ labOK so l (A' pc 4) ∧ (∀ w, w ≠ 4 → A' pc w = A pc w) ∧ ∀ a w, a ≠ pc → A' a w = A a w := by
  have hg : (pc < N ∧ 183 ≤ pc ∧ ln pc < 1000) ∧ g_in 4 (ln pc) = true := by
    rw [h6]; exact ⟨⟨h4, h5, by omega⟩, by decide⟩
  have c4 : (4 : Int32).toNatClampNeg = 4 := by decide
  have z : so = 0 ∨ so = 1 ∨ so = 2 ∨ so = 3 ∨ so = 4 ∨ so = 5 ∨ so = 6 ∨ so = 7 ∨ so = 8 := by omega
  unfold labE mL_more_b239 mL_more_b245
  rcases z with rfl | rfl | rfl | rfl | rfl | rfl | rfl | rfl | rfl
  · exact ⟨A, by rw [if_neg (by decide +kernel), if_neg (by decide +kernel), if_neg (by decide +kernel), if_neg (by decide +kernel)], by unfold labOK; rw [if_neg (by omega), if_neg (by omega)]; exact hm1, fun _ _ => rfl, fun _ _ _ => rfl⟩
  · exact ⟨A, by rw [if_neg (by decide +kernel), if_neg (by decide +kernel), if_neg (by decide +kernel), if_neg (by decide +kernel)], by unfold labOK; rw [if_neg (by omega), if_neg (by omega)]; exact hm1, fun _ _ => rfl, fun _ _ _ => rfl⟩
  · exact ⟨g_up A pc 4 (nI l), by rw [if_pos (by decide +kernel), if_pos hg, gle, if_neg (by decide +kernel), c4], by rw [up_s]; unfold labOK; rw [if_pos (by omega)], fun w q => up_p q, fun a w q => up_c q⟩
  · exact ⟨g_up A pc 4 (nI l), by rw [if_neg (by decide +kernel), if_pos (by decide +kernel), if_pos hg, gle, if_neg (by decide +kernel), c4], by rw [up_s]; unfold labOK; rw [if_pos (by omega)], fun w q => up_p q, fun a w q => up_c q⟩
  · exact ⟨A, by rw [if_neg (by decide +kernel), if_neg (by decide +kernel), if_neg (by decide +kernel), if_neg (by decide +kernel)], by unfold labOK; rw [if_neg (by omega), if_neg (by omega)]; exact hm1, fun _ _ => rfl, fun _ _ _ => rfl⟩
  · exact ⟨g_up A pc 4 (nI l), by rw [if_neg (by decide +kernel), if_neg (by decide +kernel), if_pos (by decide +kernel), if_pos hg, gle, if_neg (by decide +kernel), c4], by rw [up_s]; unfold labOK; rw [if_pos (by omega)], fun w q => up_p q, fun a w q => up_c q⟩
  · exact ⟨A, by rw [if_neg (by decide +kernel), if_neg (by decide +kernel), if_neg (by decide +kernel), if_neg (by decide +kernel)], by unfold labOK; rw [if_neg (by omega), if_neg (by omega)]; exact hm1, fun _ _ => rfl, fun _ _ _ => rfl⟩
  · obtain ⟨j, hj, e⟩ := below2 (A := A) (x >>> (4 &&& 31))
    exact ⟨g_up A pc 4 (nI j), by rw [if_neg (by decide +kernel), if_neg (by decide +kernel), if_neg (by decide +kernel), if_pos (by decide +kernel), if_pos hk, bnd e, if_pos hg, gle, c4], by rw [up_s]; unfold labOK; rw [if_neg (by omega), if_pos rfl]; exact ⟨j, hj, rfl⟩, fun w q => up_p q, fun a w q => up_c q⟩
  · exact ⟨A, by rw [if_neg (by decide +kernel), if_neg (by decide +kernel), if_neg (by decide +kernel), if_neg (by decide +kernel)], by unfold labOK; rw [if_neg (by omega), if_neg (by omega)]; exact hm1, fun _ _ => rfl, fun _ _ _ => rfl⟩
theorem copy_L {A0 : gM} {c : Nat → Nat} {F : Nat → Nat → Int32} {so l : Nat} (h : PRow A0 ln N r n c F) (hmd : md < N) (hmd2 : r < md) (hl : ln md = 1000 + (n + 1)) (g : Nat) : ∀ (d i : Nat) (A : gM), i + d = n → (∀ j, A r j = A0 r j) → (∀ j, j < i → A md j = nI (c j)) → ∃ A', mL_more_L274 xs L (d + (g + 1)) N ln kk nn A r (nI n) ofc (nI so) (nI l) pc md (nI i) = mL_more_L274 xs L (g + 1) N ln kk nn A' r (nI n) ofc (nI so) (nI l) pc md (nI n) ∧ (∀ j, j < n → A' md j = nI (c j)) ∧ ∀ a w, a ≠ md → A' a w = A a w
  | 0, i, A, hd, hA, hc => by
    have : i = n := by omega
    subst this
    exact ⟨A, by rw [Nat.zero_add], hc, fun _ _ _ => rfl⟩
  | d + 1, i, A, hd, hA, hc => by
    obtain ⟨h1, h2, h3, h4, h5, h6⟩ := id h
    obtain ⟨a1, a2, a3, a4, a5⟩ := h6 i (by omega)
    obtain ⟨A', q1, q2, q3⟩ := copy_L (so := so) (l := l) h hmd hmd2 hl g d (i + 1) (g_up A md i (nI (c i))) (by omega) (fun j => by rw [up_c (by omega)]; exact hA j) (fun j hj => by
      by_cases z : j = i
      · subst z; exact up_s
      · rw [up_p z]; exact hc j (by omega))
    refine ⟨A', ?_, q2, fun a w q => by rw [q3 a w q, up_c q]⟩
    rw [show d + 1 + (g + 1) = d + (g + 1) + 1 by omega]
    show mL_more_b274 xs L (mL_more_L274 xs L (d + (g + 1))) N ln kk nn A r (nI n) ofc (nI so) (nI l) pc md (nI i) = _
    have e1 : A r (nI i).toNatClampNeg = nI (c i) := by rw [ncl (by omega), hA, a1]
    have e2 : (nI (c i)).toNatClampNeg = c i := ncl (by omega)
    unfold mL_more_b274
    rw [if_neg (by rw [nle (by omega) (by omega)]; omega), if_pos ⟨⟨h3, h4, by omega⟩, ginT (by omega) (by omega), by rw [e1, e2]; exact fun z => z.elim (nlt0 (by omega)) (by omega)⟩, gle, e1, e2, if_pos ⟨⟨hmd, by omega, by omega, by omega⟩, ginT (by omega) (by omega), by omega, a3, by omega⟩, gle, gle, ncl (by omega), nI_1, q1]
theorem made_BI {A : gM} {s : Nat} {c : Nat → Nat} {F F' : Nat → Nat → Int32} {sz : Nat → Nat} {res : Nat → (Nat × Nat) ⊕ Rw} {o : Option (gM × (Int32 ⊕ Nat))} {so x y z l : Int32} (hM : Made A n s F sz res o so x y z l) (hP : PRow A ln N md (n + 1) c F') (hF : ∀ p, p < n → ∀ w, w < 5 → F' p w = F p w) (hN : F' n 0 = so ∧ F' n 1 = x ∧ F' n 2 = y ∧ F' n 3 = z ∧ F' n 4 = l) (hz : szE F sz n) (hs : ∀ p, p < n → sz p ≤ 24 ∧ (F p 0 = nI 2 → ∃ l, l < 3 ∧ F p 4 = nI l)) (hb : 1 + szk sz x + szk sz y + szk sz z ≤ 24) (kx : kid n x) (ky : kid n y) (kz : kid n z) (hl : so = nI 2 → ∃ j, j < 3 ∧ l = nI j) : ∃ A2 s1, o = some (A2, .inl (nI n)) ∧ s1 ≤ s + 400000 ∧ BI A2 ln N md (n + 1) s1 := by
  obtain ⟨A2, s1, F2, sz2, dp2, res2, e, hs1, hIC, ⟨r1, ⟨f0, f1, f2, f3, f4⟩, r3⟩, oA⟩ := hM
  obtain ⟨p1, p2, p3, p4, p5, p6⟩ := hP
  have kc : ∀ {v : Int32}, kid n v → szk sz2 v = szk sz v := fun {v} hv => szk_cg (by omega) hv (fun c hc => (r1 c hc).2.1)
  refine ⟨A2, s1, e, hs1, c, F2, sz2, dp2, res2, hIC, ⟨p1, p2, p3, p4, p5, fun j hj => ?_⟩, fun p hp => ?_, fun p hp => ?_⟩
  · obtain ⟨a1, a2, a3, a4, a5⟩ := p6 j hj
    refine ⟨by rw [oA _ _ p4]; exact a1, a2, a3, a4, fun w hw => ?_⟩
    rw [oA _ _ a3, a5 w hw]
    by_cases q : j = n
    · subst q
      have : w = 0 ∨ w = 1 ∨ w = 2 ∨ w = 3 ∨ w = 4 := by omega
      rcases this with rfl | rfl | rfl | rfl | rfl
      · rw [f0]; exact hN.1
      · rw [f1]; exact hN.2.1
      · rw [f2]; exact hN.2.2.1
      · rw [f3]; exact hN.2.2.2.1
      · rw [f4]; exact hN.2.2.2.2
    · rw [hF j (by omega) w hw, (r1 j (by omega)).1 w]
  · by_cases q : p = n
    · subst q
      rw [f1, f2, f3, r3, kc kx, kc ky, kc kz]
      exact ⟨⟨kx, ky, kz⟩, rfl, by omega⟩
    · obtain ⟨⟨b1, b2, b3⟩, b4, b5⟩ := hz p (by omega)
      have kd : ∀ {v : Int32}, kid p v → szk sz2 v = szk sz v := fun {v} hv => kc (kid_le (by omega) hv)
      rw [(r1 p (by omega)).1 1, (r1 p (by omega)).1 2, (r1 p (by omega)).1 3, (r1 p (by omega)).2.1, kd b1, kd b2, kd b3]
      exact ⟨⟨b1, b2, b3⟩, b4, b5⟩
  · by_cases q : p = n
    · subst q
      rw [r3, f0, f4]
      exact ⟨hb, hl⟩
    · rw [(r1 p (by omega)).2.1, (r1 p (by omega)).1 0, (r1 p (by omega)).1 4]
      exact hs p (by omega)
theorem more_ok {A : gM} {s : Nat} (h : BI A ln N r n s) (hn : n < 34) (hN : N + 5 ≤ 1000) (hs : s ≤ 1900000000) : ∃ N' ln' A' r' n' s', mL_more xs L N ln A r x = some (N', ln', A', r') ∧ BI A' ln' N' r' n' s' ∧ N ≤ N' ∧ N' ≤ N + 3 ∧ n ≤ n' ∧ n' ≤ n + 1 ∧ s' ≤ s + 400000 ∧ (n = 0 → n' = 1) := by
  obtain ⟨c, F, sz, dp, res, hIC, hP, hz, hb⟩ := id h
  obtain ⟨p1, p2, p3, p4, p5, p6⟩ := id hP
  obtain ⟨A1, e1, q1, o1⟩ := more_of (xs := xs) (L := L) (x := x) hP (by omega) (by omega)
  obtain ⟨ln1, hl1⟩ : ∃ f, f = va_up ln N 3 := ⟨_, rfl⟩
  rw [← hl1] at e1
  obtain ⟨so, hso, hso0, e2⟩ := b74_ok (xs := xs) (L := L) (A := A1) (N := N + 1) (ln := ln1) (kk := 1) (nn := 3) (ofc := N) (r := r) (x := x) (n := n) (by omega) (by omega)
  obtain ⟨l, A2, hl, e3, ⟨w0, w1, w2, w3, w4⟩, o2⟩ := b115_ok (xs := xs) (L := L) (A := A1) (N := N + 1) (ln := ln1) (kk := 1) (nn := 3) (ofc := N) (r := r) (x := x) (n := n) hso (by omega) (by omega) (by omega) (by omega)
  obtain ⟨ln2, hl2⟩ : ∃ f, f = va_up ln1 (N + 1) 5 := ⟨_, rfl⟩
  rw [← hl2] at e3
  have m3 : parN so ≤ 3 := by unfold parN; split <;> (try split) <;> (try split) <;> omega
  have mn : 1 ≤ parN so → 1 ≤ n := fun q => by
    by_cases z : n = 0
    · have := hso0 z
      unfold parN at q
      rw [if_pos this] at q; omega
    · omega
  have l2o : ln2 N = 3 := by rw [hl2, vaN (by omega), hl1, vaS rfl]
  have l2p : ln2 (N + 1) = 5 := by rw [hl2, vaS rfl]
  obtain ⟨A3, e4, g1, g2, o3⟩ := par_L (xs := xs) (L := L) (r := r) (x := x) (n := n) (kk := 1 + 1) (nn := 3 + 5) (N := N + 1 + 1) (ln := ln2) (ofc := N) (pc := N + 1) (so := so) (l := l) (m := parN so) (by omega) (by omega) l2o (by omega) (by omega) l2p (by omega) m3 gF 0 A2 (by omega) (by unfold gF; omega)
  rw [nI0] at e4
  obtain ⟨A4, e5, lab, g3, o4⟩ := lab_ok (xs := xs) (L := L) (r := r) (x := x) (n := n) (kk := 1 + 1) (nn := 3 + 5) (N := N + 1 + 1) (ln := ln2) (ofc := N) (pc := N + 1) (A := A3) (so := so) (l := l) hso (by omega) (by omega) l2p (by omega) (by rw [g2 4 (by omega), w4])
  obtain ⟨ln3, hl3⟩ : ∃ f, f = va_up ln2 (N + 2) (1000 + (n + 1)) := ⟨_, rfl⟩
  have l3 : ∀ a, a < N → ln3 a = ln a := fun a q => by rw [hl3, vaN (by omega), hl2, vaN (by omega), hl1, vaN (by omega)]
  have l3o : ln3 N = 3 := by rw [hl3, vaN (by omega)]; exact l2o
  have l3p : ln3 (N + 1) = 5 := by rw [hl3, vaN (by omega)]; exact l2p
  have l3m : ln3 (N + 2) = 1000 + (n + 1) := by rw [hl3, vaS rfl]
  obtain ⟨A5, hA5⟩ : ∃ f, f = g_row A4 (N + 2) (fun _ => (-1 : Int32)) := ⟨_, rfl⟩
  have e6 : mL_more_b263 xs L (N + 1 + 1) ln2 (1 + 1) (3 + 5) A4 r (nI n) N (nI so) (nI l) (N + 1) = mL_more_L274 xs L gF (N + 3) ln3 3 (8 + (n + 1)) A5 r (nI n) N (nI so) (nI l) (N + 1) (N + 2) 0 := by
    unfold mL_more_b263
    rw [nI_1, ncl (by omega), if_pos ⟨⟨by omega, nlt0 (by omega)⟩, by omega, by omega, by omega, by omega⟩, gle, gle, gle, ← hl3, ← hA5]
  have oA4 : ∀ a w, a < N → A4 a w = A a w := fun a w q => by rw [o4 a w (by omega), o3 a w (by omega), o2 a w (by omega), o1 a w (by omega)]
  have oA5 : ∀ a w, a ≠ N + 2 → A5 a w = A4 a w := fun a w q => by rw [hA5, g_row_n q]
  have hP5 : PRow A5 ln3 (N + 3) r n c F := ⟨by omega, p2, by omega, p4, by rw [l3 _ p3]; exact p5, fun j hj => by
    obtain ⟨a1, a2, a3, a4, a5⟩ := p6 j hj
    exact ⟨by rw [oA5 _ _ (by omega), oA4 _ _ p3]; exact a1, a2, a3, by rw [l3 _ (by omega)]; exact a4, fun w hw => by rw [oA5 _ _ (by omega), oA4 _ _ (by omega)]; exact a5 w hw⟩⟩
  obtain ⟨g, hg⟩ : ∃ g, gF = n + (g + 1) := ⟨gF - n - 1, by unfold gF; omega⟩
  obtain ⟨A6, e7, c6, o6⟩ := copy_L (xs := xs) (L := L) (kk := 3) (nn := 8 + (n + 1)) (N := N + 3) (ln := ln3) (ofc := N) (pc := N + 1) (md := N + 2) (so := so) (l := l) hP5 (by omega) (by omega) l3m g n 0 A5 (by omega) (fun _ => rfl) (fun j hj => by omega)
  rw [nI0, ← hg] at e7
  obtain ⟨A7, hA7⟩ : ∃ f, f = g_up A6 (N + 2) n (nI (N + 1)) := ⟨_, rfl⟩
  have o7 : ∀ a w, a ≠ N + 2 → A7 a w = A4 a w := fun a w q => by rw [hA7, up_c q, o6 a w q, oA5 a w q]
  have o70 : ∀ a w, a < N → A7 a w = A a w := fun a w q => by rw [o7 a w (by omega), oA4 a w q]
  have ofv : ∀ j, A7 N j = A1 N j := fun j => by rw [o7 _ _ (by omega), o4 _ _ (by omega), o3 _ _ (by omega), o2 _ _ (by omega)]
  have pv : ∀ j, j < 3 → A4 (N + 1) (1 + j) = if j < parN so then A1 N j else -1 := fun j hj => by
    rw [g3 _ (by omega)]
    by_cases z : j < parN so
    · rw [if_pos z, g1 j (by omega) z, o2 _ _ (by omega)]
    · rw [if_neg z, g2 _ (by omega)]
      have : j = 0 ∨ j = 1 ∨ j = 2 := by omega
      rcases this with rfl | rfl | rfl
      · exact w1
      · exact w2
      · exact w3
  have pk : ∀ j, j < 3 → kid n (A4 (N + 1) (1 + j)) := fun j hj => by
    rw [pv j hj]
    by_cases z : j < parN so
    · rw [if_pos z]
      obtain ⟨a, h1, h2⟩ := q1 (mn (by omega)) j hj
      exact Or.inr ⟨a, h1, h2⟩
    · rw [if_neg z]; exact Or.inl rfl
  have k1 : kid n (A4 (N + 1) 1) := pk 0 (by omega)
  have k2 : kid n (A4 (N + 1) 2) := pk 1 (by omega)
  have k3 : kid n (A4 (N + 1) 3) := pk 2 (by omega)
  have v0 : A4 (N + 1) 0 = nI so := by rw [g3 _ (by omega), g2 0 (by omega), w0]
  obtain ⟨F', hF'⟩ : ∃ F' : Nat → Nat → Int32, F' = fun p w => if p = n then A4 (N + 1) w else F p w := ⟨_, rfl⟩
  have fN : ∀ w, F' n w = A4 (N + 1) w := fun w => by rw [hF']; exact if_pos rfl
  have fO : ∀ p, p ≠ n → ∀ w, F' p w = F p w := fun p hp w => by rw [hF']; exact if_neg hp
  obtain ⟨z', hz'⟩ : ∃ z' : Nat, z' = 1 + szk sz (A4 (N + 1) 1) + szk sz (A4 (N + 1) 2) + szk sz (A4 (N + 1) 3) := ⟨_, rfl⟩
  have sb : ∀ {v : Int32}, kid n v → szk sz v ≤ 24 := fun {v} hv => by
    rcases hv with rfl | ⟨d, hd, rfl⟩
    · rw [szk_n]; omega
    · rw [szk_c (by omega)]; exact (hb d hd).1
  have b1 := sb k1
  have b2 := sb k2
  have b3 := sb k3
  have hP7 : PRow A7 ln3 (N + 3) (N + 2) (n + 1) (at1 c n (N + 1)) F' := ⟨by omega, by omega, by omega, by omega, l3m, fun j hj => by
    by_cases z : j = n
    · subst z
      rw [at1_s]
      exact ⟨by rw [hA7, up_s], by omega, by omega, l3p, fun w hw => by rw [o7 _ _ (by omega), fN]⟩
    · obtain ⟨a1, a2, a3, a4, a5⟩ := p6 j (by omega)
      rw [at1_n z]
      exact ⟨by rw [hA7, up_p z]; exact c6 j (by omega), by omega, a3, by rw [l3 _ (by omega)]; exact a4, fun w hw => by rw [o70 _ _ (by omega), fO j z]; exact a5 w hw⟩⟩
  have hz7 : szE F' (at1 sz n z') (n + 1) := fun p hp => by
    by_cases q : p = n
    · subst q
      rw [at1_s, fN, fN, fN]
      have kc : ∀ {v : Int32}, kid p v → szk (at1 sz p z') v = szk sz v := fun {v} hv => szk_cg (by omega) hv (fun c hc => at1_n (by omega))
      rw [kc k1, kc k2, kc k3]
      exact ⟨⟨k1, k2, k3⟩, hz', by omega⟩
    · obtain ⟨⟨x1, x2, x3⟩, x4, x5⟩ := hz p (by omega)
      have kc : ∀ {v : Int32}, kid p v → szk (at1 sz n z') v = szk sz v := fun {v} hv => szk_cg (by omega) hv (fun c hc => at1_n (by omega))
      rw [at1_n q, fO p q, fO p q, fO p q, kc x1, kc x2, kc x3]
      exact ⟨⟨x1, x2, x3⟩, x4, x5⟩
  have hsz := size_all (xs := xs) (L := L) hP7 hz7 60 n (by omega) (by omega)
  rw [at1_s] at hsz
  have hIC7 : IC A7 n s F sz dp res := IC_off hIC (fun a x q => o70 a x (by omega)) (stI_off hIC.2.2.1 (o70 _ _ (by omega)) (funext fun x => o70 _ _ (by omega)))
  have start : mL_more xs L N ln A r x = mL_more_L274 xs L (g + 1) (N + 3) ln3 3 (8 + (n + 1)) A6 r (nI n) N (nI so) (nI l) (N + 1) (N + 2) (nI n) := by
    rw [e1, e2, e3]
    unfold mL_more_b191
    rw [e4, e5, e6, e7]
  have gm : (N + 2 < N + 3 ∧ 183 ≤ N + 2 ∧ 1000 ≤ ln3 (N + 2) ∧ N + 2 ≤ 2000000) ∧ g_in (nI n) (ln3 (N + 2) - 1000) = true ∧ N + 1 < N + 2 ∧ 183 ≤ N + 1 ∧ ln3 (N + 1) < 1000 := ⟨⟨by omega, by omega, by omega, by omega⟩, ginT (by omega) (by omega), by omega, by omega, by omega⟩
  have st2 : mL_more xs L N ln A r x = mL_more_b274 xs L (mL_more_L274 xs L g) (N + 3) ln3 3 (8 + (n + 1)) A6 r (nI n) N (nI so) (nI l) (N + 1) (N + 2) (nI n) := start
  have go : (N + 1 < N + 3 ∧ N < N + 3) ∧ ∀ j, j < 3 → (N < N + 3 ∧ 183 ≤ N ∧ ln3 N < 1000) ∧ g_in (nI j) (ln3 N) = true := ⟨by omega, fun j hj => ⟨⟨by omega, by omega, by omega⟩, ginT (by omega) (by omega)⟩⟩
  have go0 := go.2 0 (by omega)
  have go1 := go.2 1 (by omega)
  have go2 := go.2 2 (by omega)
  rw [nI0] at go0
  rw [← one_nI] at go1
  rw [← lq2] at go2
  have gp4 : (N + 1 < N + 3 ∧ 183 ≤ N + 1 ∧ ln3 (N + 1) < 1000) ∧ g_in 4 (ln3 (N + 1)) = true := by rw [l3p]; exact ⟨⟨by omega, by omega, by omega⟩, by decide⟩
  have c2 : (2 : Int32).toNatClampNeg = 2 := by decide
  have c4 : (4 : Int32).toNatClampNeg = 4 := by decide
  unfold mL_more_b274 at st2
  rw [if_pos (by rw [nle (by omega) (by omega)]; omega), if_pos gm, gle, ncl (by omega), ← hA7, if_neg (by rw [lq40, neq (by omega) (by omega)]; omega), if_pos ⟨⟨by omega, by omega⟩, by omega, by omega, by omega, by omega⟩, cpd hsz, if_pos (Nat.le_refl _)] at st2
  by_cases h24 : z' ≤ 24
  · rw [if_pos (by rw [show (24 : Int32) = nI 24 by decide +kernel, nle (by omega) (by omega)]; exact h24)] at st2
    have q0 : 1 ≤ parN so → ∃ a, a < n ∧ A1 N 0 = nI a := fun q => q1 (mn q) 0 (by omega)
    have q2 : 1 ≤ parN so → ∃ a, a < n ∧ A1 N 1 = nI a := fun q => q1 (mn q) 1 (by omega)
    have q3 : 1 ≤ parN so → ∃ a, a < n ∧ A1 N 2 = nI a := fun q => q1 (mn q) 2 (by omega)
    have y1 : A4 (N + 1) 1 = if 0 < parN so then A1 N 0 else -1 := pv 0 (by omega)
    have y2 : A4 (N + 1) 2 = if 1 < parN so then A1 N 1 else -1 := pv 1 (by omega)
    have y3 : A4 (N + 1) 3 = if 2 < parN so then A1 N 2 else -1 := pv 2 (by omega)
    have fin : ∀ o x y z l', Made A7 n s F sz res o (nI so) x y z l' → A4 (N + 1) 1 = x → A4 (N + 1) 2 = y → A4 (N + 1) 3 = z → A4 (N + 1) 4 = l' → (so = 2 → ∃ j, j < 3 ∧ l' = nI j) → ∃ A2 s1, o = some (A2, .inl (nI n)) ∧ s1 ≤ s + 400000 ∧ BI A2 ln3 (N + 3) (N + 2) (n + 1) s1 := fun o x y z l' hM z1 z2 z3 z4 z5 => by
      subst z1; subst z2; subst z3; subst z4
      exact made_BI hM hP7 (fun p hp w hw => fO p (by omega) w) ⟨by rw [fN]; exact v0, fN 1, fN 2, fN 3, fN 4⟩ hz hb (by omega) k1 k2 k3 (fun e => z5 (by rw [neq (by omega) (by omega)] at e; exact e))
    have out : ∀ A2 s1 kk nn, kk ≤ 20 ∧ nn ≤ 300 → s1 ≤ s + 400000 → BI A2 ln3 (N + 3) (N + 2) (n + 1) s1 → mL_more xs L N ln A r x = mL_more_b473 xs L (N + 3) ln3 kk nn A2 (nI n) (N + 2) (nI n) → ∃ N' ln' A' r' n' s', mL_more xs L N ln A r x = some (N', ln', A', r') ∧ BI A' ln' N' r' n' s' ∧ N ≤ N' ∧ N' ≤ N + 3 ∧ n ≤ n' ∧ n' ≤ n + 1 ∧ s' ≤ s + 400000 ∧ (n = 0 → n' = 1) := fun A2 s1 kk nn hk h1 h2 h3 => by
      refine ⟨N + 3, ln3, A2, N + 2, n + 1, s1, ?_, h2, by omega, by omega, by omega, by omega, h1, fun q => by omega⟩
      rw [h3]
      unfold mL_more_b473
      rw [if_pos rfl, if_pos hk]
    clear e1 e2 e3 e4 e5 e6 e7 start
    have z : so = 0 ∨ so = 1 ∨ so = 2 ∨ so = 3 ∨ so = 4 ∨ so = 5 ∨ so = 6 ∨ so = 7 ∨ so = 8 := by omega
    rcases z with rfl | rfl | rfl | rfl | rfl | rfl | rfl | rfl | rfl
    · rw [if_neg (by decide)] at y1
      rw [if_neg (by decide)] at y2
      rw [if_neg (by decide)] at y3
      have yl : A4 (N + 1) 4 = -1 := by unfold labOK at lab; rw [if_neg (by omega), if_neg (by omega)] at lab; exact lab
      have hz2 : z' = 1 := by rw [hz', y1, y2, y3, szk_n]; all_goals omega
      obtain ⟨B, s1, oc, hs1, hB⟩ := fin _ _ _ _ _ (m_plain (j := 0) hIC7 (by omega) (by omega) (by omega) (by omega)) y1 y2 y3 yl (fun q => by omega)
      rw [if_neg (by decide +kernel), if_pos ⟨by omega, by omega⟩, cxd oc] at st2
      exact out B s1 _ _ (by omega) hs1 hB st2
    · rw [if_neg (by decide)] at y1
      rw [if_neg (by decide)] at y2
      rw [if_neg (by decide)] at y3
      have yl : A4 (N + 1) 4 = -1 := by unfold labOK at lab; rw [if_neg (by omega), if_neg (by omega)] at lab; exact lab
      have hz2 : z' = 1 := by rw [hz', y1, y2, y3, szk_n]; all_goals omega
      obtain ⟨B, s1, oc, hs1, hB⟩ := fin _ _ _ _ _ (m_plain (j := 1) hIC7 (by omega) (by omega) (by omega) (by omega)) y1 y2 y3 yl (fun q => by omega)
      rw [if_neg (by decide +kernel), if_pos ⟨by omega, by omega⟩, cxd oc] at st2
      exact out B s1 _ _ (by omega) hs1 hB st2
    · rw [if_neg (by decide)] at y1
      rw [if_neg (by decide)] at y2
      rw [if_neg (by decide)] at y3
      have yl : A4 (N + 1) 4 = nI l := by unfold labOK at lab; rw [if_pos (by omega)] at lab; exact lab
      have hz2 : z' = 1 := by rw [hz', y1, y2, y3, szk_n]; all_goals omega
      obtain ⟨B, s1, oc, hs1, hB⟩ := fin _ _ _ _ _ (m_name (j := l) hIC7 (by omega) (by omega) (by omega) (by omega)) y1 y2 y3 yl (fun _ => ⟨l, hl, rfl⟩)
      rw [if_pos (by decide +kernel), if_pos (by decide +kernel), if_pos ⟨by omega, by omega⟩, cxd oc] at st2
      exact out B s1 _ _ (by omega) hs1 hB st2
    · obtain ⟨a0, h0, ea0⟩ := q0 (by decide)
      rw [if_pos (by decide), ea0] at y1
      rw [if_neg (by decide)] at y2
      rw [if_neg (by decide)] at y3
      have yl : A4 (N + 1) 4 = nI l := by unfold labOK at lab; rw [if_pos (by omega)] at lab; exact lab
      have hz2 : z' = 1 + sz a0 := by rw [hz', y1, y2, y3, szk_c (by omega), szk_n]; all_goals omega
      obtain ⟨B, s1, oc, hs1, hB⟩ := fin _ _ _ _ _ (m_wheel (j := l) (a := a0) hIC7 (by omega) (by omega) h0 (by omega) (by omega)) y1 y2 y3 yl (fun q => by omega)
      rw [if_pos (by decide +kernel), if_neg (by decide +kernel), if_pos (by decide +kernel), if_pos go0, if_pos ⟨by omega, by omega⟩, cl0, ofv, ea0, cxd oc] at st2
      exact out B s1 _ _ (by omega) hs1 hB st2
    · obtain ⟨a0, h0, ea0⟩ := q0 (by decide)
      obtain ⟨a1, h1, ea1⟩ := q2 (by decide)
      rw [if_pos (by decide), ea0] at y1
      rw [if_pos (by decide), ea1] at y2
      rw [if_neg (by decide)] at y3
      have yl : A4 (N + 1) 4 = -1 := by unfold labOK at lab; rw [if_neg (by omega), if_neg (by omega)] at lab; exact lab
      have hz2 : z' = 1 + sz a0 + sz a1 := by rw [hz', y1, y2, y3, szk_c (by omega), szk_c (by omega), szk_n]; all_goals omega
      obtain ⟨B, s1, oc, hs1, hB⟩ := fin _ _ _ _ _ (m_turn (a := a0) (d := a1) hIC7 (by omega) (by omega) h0 h1 (by omega)) y1 y2 y3 yl (fun q => by omega)
      rw [if_pos (by decide +kernel), if_neg (by decide +kernel), if_neg (by decide +kernel), if_pos (by decide +kernel), if_pos go0, if_pos go1, if_pos ⟨by omega, by omega⟩, cl0, ofv, ea0, cl1, ofv, ea1, cxd oc] at st2
      exact out B s1 _ _ (by omega) hs1 hB st2
    · obtain ⟨a0, h0, ea0⟩ := q0 (by decide)
      obtain ⟨a1, h1, ea1⟩ := q2 (by decide)
      rw [if_pos (by decide), ea0] at y1
      rw [if_pos (by decide), ea1] at y2
      rw [if_neg (by decide)] at y3
      have yl : A4 (N + 1) 4 = nI l := by unfold labOK at lab; rw [if_pos (by omega)] at lab; exact lab
      have hz2 : z' = 1 + sz a0 + sz a1 := by rw [hz', y1, y2, y3, szk_c (by omega), szk_c (by omega), szk_n]; all_goals omega
      obtain ⟨B, s1, oc, hs1, hB⟩ := fin _ _ _ _ _ (m_tell (j := l) (a := a0) (d := a1) hIC7 (by omega) (by omega) h0 h1 (by omega) (by omega)) y1 y2 y3 yl (fun q => by omega)
      rw [if_pos (by decide +kernel), if_neg (by decide +kernel), if_neg (by decide +kernel), if_neg (by decide +kernel), if_pos (by decide +kernel), if_pos go0, if_pos go1, if_pos ⟨by omega, by omega⟩, cl0, ofv, ea0, cl1, ofv, ea1, cxd oc] at st2
      exact out B s1 _ _ (by omega) hs1 hB st2
    · obtain ⟨a0, h0, ea0⟩ := q0 (by decide)
      obtain ⟨a1, h1, ea1⟩ := q2 (by decide)
      rw [if_pos (by decide), ea0] at y1
      rw [if_pos (by decide), ea1] at y2
      rw [if_neg (by decide)] at y3
      have yl : A4 (N + 1) 4 = -1 := by unfold labOK at lab; rw [if_neg (by omega), if_neg (by omega)] at lab; exact lab
      have hz2 : z' = 1 + sz a0 + sz a1 := by rw [hz', y1, y2, y3, szk_c (by omega), szk_c (by omega), szk_n]; all_goals omega
      obtain ⟨B, s1, oc, hs1, hB⟩ := fin _ _ _ _ _ (m_axle (a := a0) (d := a1) hIC7 (by omega) (by omega) h0 h1 (by omega)) y1 y2 y3 yl (fun q => by omega)
      rw [if_pos (by decide +kernel), if_neg (by decide +kernel), if_neg (by decide +kernel), if_neg (by decide +kernel), if_neg (by decide +kernel), if_pos (by decide +kernel), if_pos go0, if_pos go1, if_pos ⟨by omega, by omega⟩, cl0, ofv, ea0, cl1, ofv, ea1, cxd oc] at st2
      exact out B s1 _ _ (by omega) hs1 hB st2
    · obtain ⟨a0, h0, ea0⟩ := q0 (by decide)
      rw [if_pos (by decide), ea0] at y1
      rw [if_neg (by decide)] at y2
      rw [if_neg (by decide)] at y3
      obtain ⟨j, hj, yl⟩ : ∃ j, j < 2 ∧ A4 (N + 1) 4 = nI j := by unfold labOK at lab; rw [if_neg (by omega), if_pos rfl] at lab; exact lab
      have hz2 : z' = 1 + sz a0 := by rw [hz', y1, y2, y3, szk_c (by omega), szk_n]; all_goals omega
      obtain ⟨B, s1, oc, hs1, hB⟩ := fin _ _ _ _ _ (m_end (a := a0) (j := j) hIC7 (by omega) (by omega) h0 hj (by omega)) y1 y2 y3 yl (fun q => by omega)
      rw [if_pos (by decide +kernel), if_neg (by decide +kernel), if_neg (by decide +kernel), if_neg (by decide +kernel), if_neg (by decide +kernel), if_neg (by decide +kernel), if_pos (by decide +kernel), if_pos go0, if_pos gp4, if_pos ⟨by omega, by omega⟩, cl0, ofv, ea0, c4, o7 _ _ (show N + 1 ≠ N + 2 by omega), yl, cxd oc] at st2
      exact out B s1 _ _ (by omega) hs1 hB st2
    · obtain ⟨a0, h0, ea0⟩ := q0 (by decide)
      obtain ⟨a1, h1, ea1⟩ := q2 (by decide)
      obtain ⟨a2, h2, ea2⟩ := q3 (by decide)
      rw [if_pos (by decide), ea0] at y1
      rw [if_pos (by decide), ea1] at y2
      rw [if_pos (by decide), ea2] at y3
      have yl : A4 (N + 1) 4 = -1 := by unfold labOK at lab; rw [if_neg (by omega), if_neg (by omega)] at lab; exact lab
      have hz2 : z' = 1 + sz a0 + sz a1 + sz a2 := by rw [hz', y1, y2, y3, szk_c (by omega), szk_c (by omega), szk_c (by omega)]; all_goals omega
      obtain ⟨B, s1, oc, hs1, hB⟩ := fin _ _ _ _ _ (m_either (a := a0) (d := a1) (e := a2) hIC7 (by omega) (by omega) h0 h1 h2 (by omega)) y1 y2 y3 yl (fun q => by omega)
      rw [if_pos (by decide +kernel), if_neg (by decide +kernel), if_neg (by decide +kernel), if_neg (by decide +kernel), if_neg (by decide +kernel), if_neg (by decide +kernel), if_neg (by decide +kernel), if_pos go0, if_pos go1, if_pos go2, if_pos ⟨by omega, by omega⟩, cl0, ofv, ea0, cl1, ofv, ea1, c2, ofv, ea2, cxd oc] at st2
      exact out B s1 _ _ (by omega) hs1 hB st2
  · rw [if_neg (by rw [show (24 : Int32) = nI 24 by decide +kernel, nle (by omega) (by omega)]; exact h24)] at st2
    refine ⟨N + 3, ln3, A7, r, n, s, ?_, ⟨c, F, sz, dp, res, hIC7, ⟨by omega, p2, by omega, p4, by rw [l3 _ p3]; exact p5, fun j hj => ?_⟩, hz, hb⟩, by omega, by omega, by omega, by omega, by omega, fun q => ?_⟩
    · rw [st2]
      unfold mL_more_b318
      rw [if_pos (by omega)]
    · obtain ⟨a1, a2, a3, a4, a5⟩ := p6 j hj
      exact ⟨by rw [o70 _ _ p3]; exact a1, a2, a3, by rw [l3 _ (by omega)]; exact a4, fun w hw => by rw [o70 _ _ (by omega)]; exact a5 w hw⟩
    · subst q
      have k0 : ∀ {v : Int32}, kid 0 v → szk sz v = 0 := fun {v} hv => by
        rcases hv with rfl | ⟨d, hd, -⟩
        · exact szk_n
        · omega
      rw [k0 k1, k0 k2, k0 k3] at hz'
      omega
end MO
