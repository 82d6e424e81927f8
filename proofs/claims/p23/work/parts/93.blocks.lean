/-! THE BLOCKS OF A ROUND, from its end -/
def HK (K84 : Nat → (Nat → Nat) → Nat → Nat → gM → Int32 → Int32 → Int32 → Int32 → Int32 → Int32 → Option Unit) (n nm t S NB B : Nat) : Prop := ∀ (N k nn s : Nat) (ln : Nat → Nat) (A : gM) (F : Nat → Nat → Int32) (sz dp : Nat → Nat) (res : Nat → (Nat × Nat) ⊕ Rw), IC A (n + 3) s F sz dp res → RB n nm F sz res → s ≤ S → 183 ≤ N → N ≤ NB → k + B ≤ 600130 → nn + 6 * B ≤ 7301080 → K84 N ln k nn A (nI n) (nI nm) (nI n) (nI (n + 1)) (nI (n + 2)) (nI (t + 1)) = some ()
def CT (K84 : Nat → (Nat → Nat) → Nat → Nat → gM → Int32 → Int32 → Int32 → Int32 → Int32 → Int32 → Option Unit) (n nm t S NB B p q : Nat) (F : Nat → Nat → Int32) (sz : Nat → Nat) (res : Nat → (Nat × Nat) ⊕ Rw) : Prop := HK K84 n nm t S NB B ∧ RB n nm F sz res ∧ RT n p q res ∧ n ≤ 24 ∧ p < n ∧ q < n
theorem one_add {a : Nat} : (1 : Int32) + nI a = nI (1 + a) := by rw [one_nI, nI_add]
theorem zadd {a : Nat} : nI a + 0 = nI a := by rw [← nI0, nI_add, Nat.add_zero]
theorem lq24 : (24 : Int32) = nI 24 := by decide +kernel
theorem told_r {x : (Nat × Nat) ⊕ Rw} {r : Rw} (e : x = .inr r) : told x 0 = 0 ∧ told x 1 = -1 ∧ told x 2 = nI r.length ∧ told x 3 = nI (vrs r) := by subst e; exact ⟨rfl, rfl, rfl, rfl⟩
theorem told_f {x : (Nat × Nat) ⊕ Rw} {f w : Nat} (e : x = .inl (f, w)) : told x 0 = nI f ∧ told x 1 = nI w := by subst e; exact ⟨rfl, rfl⟩
theorem IC_arr {A A' : gM} {N np s : Nat} {F : Nat → Nat → Int32} {sz dp : Nat → Nat} {res : Nat → (Nat × Nat) ⊕ Rw} (h : IC A np s F sz dp res) (hN : 183 ≤ N) (o : ∀ a w, a ≠ N → A' a w = A a w) : IC A' np s F sz dp res := IC_off h (fun a x q => o a x (by omega)) (stI_off h.2.2.1 (o _ _ (by omega)) (funext fun x => o _ _ (by omega)))
section BK
variable {xs : Nat → Int32} {L : Nat} {K84 : Nat → (Nat → Nat) → Nat → Nat → gM → Int32 → Int32 → Int32 → Int32 → Int32 → Int32 → Option Unit} {n nm t S NB B p q N k nn s : Nat} {ln : Nat → Nat} {A : gM} {F : Nat → Nat → Int32} {sz dp : Nat → Nat} {res : Nat → (Nat × Nat) ⊕ Rw} {r r' : Rw}
theorem und_L (c : CT K84 n nm t S NB B p q F sz res) (hs : s ≤ S) (hN1 : 183 ≤ N) (hN : N ≤ NB) : ∀ (f i k nn : Nat) (A : gM), i ≤ 7 → 7 - i < f → IC A (n + 10 - i) s F sz dp res → k + (B + 7 - i) ≤ 600130 → nn + 6 * (B + 7 - i) ≤ 7301080 → mL_law_L851 xs L K84 f N ln k nn A (nI n) (nI nm) (nI n) (nI (n + 1)) (nI (n + 2)) (nI t) (nI i) = some ()
  | 0, i, k, nn, A, _, hf, _, _, _ => by omega
  | f + 1, i, k, nn, A, hi, hf, h, k1, k2 => by
    obtain ⟨c1, c2, c3, c4, c5, c6⟩ := id c
    show mL_law_b851 xs L K84 (mL_law_L851 xs L K84 f) N ln k nn A (nI n) (nI nm) (nI n) (nI (n + 1)) (nI (n + 2)) (nI t) (nI i) = _
    unfold mL_law_b851
    by_cases e : i = 7
    · subst e
      rw [if_pos (by rw [lq7, nle (by omega) (by omega)]; omega), gle, nI_1]
      exact c1 N k nn s ln A F sz dp res h c2 hs hN1 hN (by omega) (by omega)
    · obtain ⟨A1, e1, e2, e3⟩ := a_undo h (by omega)
      rw [if_neg (by rw [lq7, nle (by omega) (by omega)]; omega), if_pos (by omega), cxd e1, if_pos (by rw [nle (by omega) (by omega)]; omega), gle, nI_1]
      rw [show n + 10 - i - 1 = n + 10 - (i + 1) by omega] at e2
      exact und_L c hs hN1 hN f (i + 1) (k + 1) (nn + 6 * 1) A1 (by omega) (by omega) e2 (by omega) (by omega)
theorem l848 (c : CT K84 n nm t S NB B p q F sz res) (h : IC A (n + 10) s F sz dp res) (hs : s ≤ S) (hN1 : 183 ≤ N) (hN : N ≤ NB) (k1 : k + (B + 7) ≤ 600130) (k2 : nn + 6 * (B + 7) ≤ 7301080) : mL_law_b848 xs L K84 N ln k nn A (nI n) (nI nm) (nI n) (nI (n + 1)) (nI (n + 2)) (nI t) = some () := by
  have e := und_L (xs := xs) (L := L) (ln := ln) (dp := dp) c hs hN1 hN gF 0 k nn A (by omega) (by unfold gF; omega) h (by omega) (by omega)
  rw [nI0] at e
  unfold mL_law_b848
  exact e
theorem codeB {x : Nat} {R : Rw} {d i : Nat} (h : IC A (n + 10) s F sz dp res) (hx : x < n + 10) (e : res x = .inr R) (hd : R[i]? = some d) : d ≤ 100 ∧ R.length ≤ 60 := by
  have z := ((h.2.2.2.2 x hx).2.2.2.2.2.2.2.2 R e)
  have := z.2.2 d (List.mem_iff_getElem?.mpr ⟨i, hd⟩)
  exact ⟨by omega, z.2.1⟩
theorem lenB {x : Nat} {R : Rw} (h : IC A (n + 10) s F sz dp res) (hx : x < n + 10) (e : res x = .inr R) : R.length ≤ 60 := (h.2.2.2.2 x hx).2.2.2.2.2.2.2.2 R e |>.2.1
theorem ax2_L (c : CT K84 n nm t S NB B p q F sz res) (h : IC A (n + 10) s F sz dp res) (hs : s ≤ S) (hN1 : 183 ≤ N) (hN : N ≤ NB) (hp : res p = .inr r) (hq : res q = .inr r') (ha : res (n + 7) = .inr (3 :: (r ++ shf (vrs r) r'))) : ∀ (f i k nn : Nat), i ≤ r'.length → r'.length - i < f → k + (B + 7 + 6 * (r'.length - i)) ≤ 600130 → nn + 6 * (B + 7 + 6 * (r'.length - i)) ≤ 7301080 → mL_law_L789 xs L K84 f N ln k nn A (nI n) (nI nm) (nI n) (nI (n + 1)) (nI (n + 2)) (nI t) (nI q) (nI (n + 7)) (nI r.length) (nI (vrs r)) (nI r'.length) (nI i) = some ()
  | 0, i, k, nn, _, hf, _, _ => by omega
  | f + 1, i, k, nn, hi, hf, k1, k2 => by
    obtain ⟨c1, c2, c3, c4, c5, c6⟩ := id c
    have hl := lenB h (by omega) hq
    show mL_law_b789 xs L K84 (mL_law_L789 xs L K84 f) N ln k nn A (nI n) (nI nm) (nI n) (nI (n + 1)) (nI (n + 2)) (nI t) (nI q) (nI (n + 7)) (nI r.length) (nI (vrs r)) (nI r'.length) (nI i) = _
    unfold mL_law_b789
    by_cases e : i = r'.length
    · rw [if_pos (by rw [nle (by omega) (by omega)]; omega)]
      exact l848 c h hs hN1 hN (by omega) (by omega)
    · obtain ⟨d, hd⟩ : ∃ d, r'[i]? = some d := ⟨_, List.getElem?_eq_getElem (by omega)⟩
      have a1 := a_code h (show n + 7 < n + 10 by omega) ha (w := 1 + r.length + i) (c := if d < 10 then d else d + vrs r) (by rw [show 1 + r.length + i = r.length + i + 1 by omega, List.getElem?_cons_succ, List.getElem?_append_right (by omega), Nat.add_sub_cancel_left]; exact shf_at hd)
      have a2 := a_code h (show q < n + 10 by omega) hq hd
      have hdb := (codeB h (by omega) hq hd).1
      have ih := ax2_L c h hs hN1 hN hp hq ha f (i + 1) (k + 2 + 2 + 2) (nn + 6 * 2 + 6 * 2 + 6 * 2) (by omega) (by omega) (by omega) (by omega)
      unfold mL_law_b796 mL_law_b836
      rw [if_neg (by rw [nle (by omega) (by omega)]; omega), if_pos (by omega), one_add, nI_add, cxd a1, if_pos (by omega), cxd a2, if_pos (by omega), cxd a2]
      by_cases y : d ≤ 9
      · rw [if_pos (by rw [lq9, nle (by omega) (by omega)]; exact y), if_pos (by rw [if_pos (by omega), zadd]), gle, nI_1]
        exact ih
      · rw [if_neg (by rw [lq9, nle (by omega) (by omega)]; exact y), if_pos (by rw [if_neg (by omega), nI_add]), gle, nI_1]
        exact ih
theorem ax1_L (c : CT K84 n nm t S NB B p q F sz res) (h : IC A (n + 10) s F sz dp res) (hs : s ≤ S) (hN1 : 183 ≤ N) (hN : N ≤ NB) (hp : res p = .inr r) (hq : res q = .inr r') (ha : res (n + 7) = .inr (3 :: (r ++ shf (vrs r) r'))) : ∀ (f i k nn : Nat), i ≤ r.length → r.length - i < f → k + (B + 370 + 4 * (r.length - i)) ≤ 600130 → nn + 6 * (B + 370 + 4 * (r.length - i)) ≤ 7301080 → mL_law_L750 xs L K84 f N ln k nn A (nI n) (nI nm) (nI n) (nI (n + 1)) (nI (n + 2)) (nI t) (nI p) (nI q) (nI (n + 7)) (nI r.length) (nI (vrs r)) (nI r'.length) (nI i) = some ()
  | 0, i, k, nn, _, hf, _, _ => by omega
  | f + 1, i, k, nn, hi, hf, k1, k2 => by
    obtain ⟨c1, c2, c3, c4, c5, c6⟩ := id c
    have hl := lenB h (by omega) hp
    have hl2 := lenB h (by omega) hq
    show mL_law_b750 xs L K84 (mL_law_L750 xs L K84 f) N ln k nn A (nI n) (nI nm) (nI n) (nI (n + 1)) (nI (n + 2)) (nI t) (nI p) (nI q) (nI (n + 7)) (nI r.length) (nI (vrs r)) (nI r'.length) (nI i) = _
    unfold mL_law_b750
    by_cases e : i = r.length
    · rw [if_pos (by rw [nle (by omega) (by omega)]; omega)]
      have e2 := ax2_L (xs := xs) (L := L) (ln := ln) c h hs hN1 hN hp hq ha gF 0 k nn (by omega) (by unfold gF; omega) (by omega) (by omega)
      rw [nI0] at e2
      exact e2
    · obtain ⟨d, hd⟩ : ∃ d, r[i]? = some d := ⟨_, List.getElem?_eq_getElem (by omega)⟩
      have a1 := a_code h (show n + 7 < n + 10 by omega) ha (w := 1 + i) (c := d) (by rw [show 1 + i = i + 1 by omega, List.getElem?_cons_succ, List.getElem?_append_left (by omega)]; exact hd)
      have a2 := a_code h (show p < n + 10 by omega) hp hd
      have ih := ax1_L c h hs hN1 hN hp hq ha f (i + 1) (k + 2 + 2) (nn + 6 * 2 + 6 * 2) (by omega) (by omega) (by omega) (by omega)
      unfold mL_law_b757
      rw [if_neg (by rw [nle (by omega) (by omega)]; omega), if_pos (by omega), one_add, cxd a1, if_pos (by omega), cxd a2, if_pos rfl, gle, nI_1]
      exact ih
set_option maxRecDepth 20000 in
theorem l675 (c : CT K84 n nm t S NB B p q F sz res) (h : IC A (n + 10) s F sz dp res) (hs : s ≤ S) (hN1 : 183 ≤ N) (hN : N ≤ NB) (k1 : k + (B + 630) ≤ 600130) (k2 : nn + 6 * (B + 630) ≤ 7301080) (hp : res p = .inr r) (hq : res q = .inr r') (hl : 1 + r.length + r'.length ≤ 60) : mL_law_b675 xs L K84 N ln k nn A (nI n) (nI nm) (nI n) (nI (n + 1)) (nI (n + 2)) (nI t) (nI p) (nI q) (nI (n + 7)) (nI (n + 8)) (nI (n + 9)) (nI r.length) (nI (vrs r)) (nI r'.length) = some () := by
  obtain ⟨c1, c2, ⟨-, -, -, -, c3, -⟩, c4, c5, c6⟩ := id c
  obtain ⟨h7, h8, h9⟩ := c3 r r' hp hq hl
  obtain ⟨-, -, t2, t3⟩ := told_r h7
  obtain ⟨-, -, -, u3⟩ := told_r hq
  have a2 := a_t2 h (show n + 7 < n + 10 by omega)
  have a3 := a_t3 h (show n + 7 < n + 10 by omega)
  have b3 := a_t3 h (show q < n + 10 by omega)
  rw [t2] at a2
  rw [t3] at a3
  rw [u3] at b3
  have e2 : (3 :: (r ++ shf (vrs r) r')).length = 1 + r.length + r'.length := by rw [List.length_cons, List.length_append, shf_len]; omega
  have e3 : vrs (3 :: (r ++ shf (vrs r) r')) = vrs r + vrs r' := by
    rw [vrs_cons, vrs_app, vrs_shf]
    by_cases z : vrs r' = 0
    · rw [if_pos z]; omega
    · rw [if_neg z]; omega
  have a0 := a_c0 h (show n + 7 < n + 10 by omega) h7
  have s1 := a_same h (show n + 8 < n + 10 by omega) (show p < n + 10 by omega) h8 hp
  have s2 := a_same h (show n + 9 < n + 10 by omega) (show q < n + 10 by omega) h9 hq
  have hlr := lenB h (by omega) hp
  have fin := ax1_L (xs := xs) (L := L) (ln := ln) c h hs hN1 hN hp hq h7 gF 0 (k + 2 + 2 + 2 + 2 + 2 + 2) (nn + 6 * 2 + 6 * 2 + 6 * 2 + 6 * 2 + 6 * 2 + 6 * 2) (by omega) (by unfold gF; omega) (by omega) (by omega)
  rw [nI0] at fin
  unfold mL_law_b675
  rw [if_pos (by omega), cxd a2, e2, if_pos (by rw [one_add, nI_add])]
  unfold mL_law_b692
  rw [if_pos (by omega), cxd a3, if_pos (by omega), cxd b3, e3, if_pos (by rw [nI_add])]
  unfold mL_law_b712
  rw [if_pos (by omega), cxd a0, if_pos (by rw [lq3])]
  unfold mL_law_b723
  rw [if_pos (by omega), cxd s1, if_neg (by decide)]
  unfold mL_law_b734
  rw [if_pos (by omega), cxd s2, if_neg (by decide)]
  exact fin
set_option maxRecDepth 20000 in
theorem l633 (c : CT K84 n nm t S NB B p q F sz res) (h : IC A (n + 10) s F sz dp res) (hs : s ≤ S) (hN1 : 183 ≤ N) (hN : N + 1 ≤ NB) (k1 : k + (B + 630) ≤ 600130) (k2 : nn + 6 * (B + 630) ≤ 7301080) (hp : res p = .inr r) (hq : res q = .inr r') : mL_law_b633 xs L K84 N ln k nn A (nI n) (nI nm) (nI n) (nI (n + 1)) (nI (n + 2)) (nI t) (nI p) (nI q) (nI (n + 7)) (nI (n + 8)) (nI (n + 9)) (nI r.length) (nI (vrs r)) (nI r'.length) = some () := by
  obtain ⟨c1, c2, ⟨-, -, -, -, -, c3⟩, c4, c5, c6⟩ := id c
  have hlr := lenB h (by omega) hp
  have hlr' := lenB h (by omega) hq
  unfold mL_law_b633
  by_cases hl : 1 + r.length + r'.length ≤ 60
  · rw [if_pos (by rw [one_add, nI_add, lq60, nle (by omega) (by omega)]; exact hl)]
    exact l675 c h hs hN1 (by omega) k1 k2 hp hq hl
  obtain ⟨h7, h8, h9⟩ := c3 r r' hp hq hl
  have c2' : (2 : Int32).toNatClampNeg = 2 := by decide
  have c3' : (3 : Int32).toNatClampNeg = 3 := by decide
  have c4' : (4 : Int32).toNatClampNeg = 4 := by decide
  have hg : ∀ w : Int32, g_in w 3 = true → ((N < N + 1 ∧ 183 ≤ N ∧ va_up ln N (3 : Int32).toNatClampNeg N < 1000) ∧ g_in w (va_up ln N (3 : Int32).toNatClampNeg N) = true) := fun w hw => by
    rw [vaS rfl]
    exact ⟨⟨by omega, hN1, by decide⟩, hw⟩
  obtain ⟨A', hA'⟩ : ∃ A', A' = g_up (g_up (g_up (g_row A N (fun _ => 0)) N 0 (nI (n + 7))) N 1 (nI (n + 8))) N 2 (nI (n + 9)) := ⟨_, rfl⟩
  have h' : IC A' (n + 10) s F sz dp res := IC_arr h hN1 (fun a w q => by rw [hA', up_c q, up_c q, up_c q, g_row_n q])
  have f := isFault_ok (xs := xs) (L := L) (N := N + 1) (ln := va_up ln N 3) (al := N) (m := 3) (x1 := 4) (x2 := nI (n + 7)) h' (by omega) hN1 (vaS rfl) (by omega) (fun j hj => by
    have : j = 0 ∨ j = 1 ∨ j = 2 := by omega
    rcases this with rfl | rfl | rfl
    · exact ⟨n + 7, by omega, by rw [hA', up_p (by omega), up_p (by omega), up_s], by rw [lq4]; exact (told_f h7).1, (told_f h7).2⟩
    · exact ⟨n + 8, by omega, by rw [hA', up_p (by omega), up_s], by rw [lq4]; exact (told_f h8).1, (told_f h8).2⟩
    · exact ⟨n + 9, by omega, by rw [hA', up_s], by rw [lq4]; exact (told_f h9).1, (told_f h9).2⟩)
  rw [if_neg (by rw [one_add, nI_add, lq60, nle (by omega) (by omega)]; exact hl), if_pos ⟨⟨by decide, by decide⟩, by rw [c3']; omega⟩, gle, gle, gle, if_pos (hg 0 (by decide)), gle, if_pos (hg 1 (by decide)), gle, if_pos (hg 2 (by decide)), gle, c2', c3', cl0, cl1, ← hA', if_pos (by omega), cpd f, if_pos (Nat.le_refl _), if_neg (by decide)]
  exact l848 c h' hs (by omega) (by omega) (by omega) (by omega)
set_option maxRecDepth 20000 in
theorem l592 {f w : Nat} (c : CT K84 n nm t S NB B p q F sz res) (h : IC A (n + 10) s F sz dp res) (hs : s ≤ S) (hN1 : 183 ≤ N) (hN : N + 1 ≤ NB) (k1 : k + (B + 60) ≤ 600130) (k2 : nn + 6 * (B + 60) ≤ 7301080) (hp : res p = .inr r) (hq : res q = .inl (f, w)) : mL_law_b592 xs L K84 N ln k nn A (nI n) (nI nm) (nI n) (nI (n + 1)) (nI (n + 2)) (nI t) (nI q) (nI (n + 7)) (nI (n + 8)) (nI (n + 9)) = some () := by
  obtain ⟨c1, c2, ⟨-, -, -, c3, -⟩, c4, c5, c6⟩ := id c
  obtain ⟨h7, h8, h9⟩ := c3 r (f, w) hp hq
  have c2' : (2 : Int32).toNatClampNeg = 2 := by decide
  have c3' : (3 : Int32).toNatClampNeg = 3 := by decide
  have c4' : (4 : Int32).toNatClampNeg = 4 := by decide
  have hg : ∀ w : Int32, g_in w 3 = true → ((N < N + 1 ∧ 183 ≤ N ∧ va_up ln N (3 : Int32).toNatClampNeg N < 1000) ∧ g_in w (va_up ln N (3 : Int32).toNatClampNeg N) = true) := fun w hw => by
    rw [vaS rfl]
    exact ⟨⟨by omega, hN1, by decide⟩, hw⟩
  obtain ⟨A', hA'⟩ : ∃ A', A' = g_up (g_up (g_up (g_row A N (fun _ => 0)) N 0 (nI (n + 7))) N 1 (nI (n + 8))) N 2 (nI (n + 9)) := ⟨_, rfl⟩
  have h' : IC A' (n + 10) s F sz dp res := IC_arr h hN1 (fun a w q => by rw [hA', up_c q, up_c q, up_c q, g_row_n q])
  have a0 := a_t0 h (show q < n + 10 by omega)
  have a1 := a_t1 h (show q < n + 10 by omega)
  rw [(told_f hq).1] at a0
  rw [(told_f hq).2] at a1
  have f := isFault_ok (xs := xs) (L := L) (N := N + 1) (ln := va_up ln N 3) (al := N) (m := 3) (x1 := nI f) (x2 := nI w) h' (by omega) hN1 (vaS rfl) (by omega) (fun j hj => by
    have : j = 0 ∨ j = 1 ∨ j = 2 := by omega
    rcases this with rfl | rfl | rfl
    · exact ⟨n + 7, by omega, by rw [hA', up_p (by omega), up_p (by omega), up_s], (told_f h7).1, (told_f h7).2⟩
    · exact ⟨n + 8, by omega, by rw [hA', up_p (by omega), up_s], (told_f h8).1, (told_f h8).2⟩
    · exact ⟨n + 9, by omega, by rw [hA', up_s], (told_f h9).1, (told_f h9).2⟩)
  unfold mL_law_b592
  rw [if_pos (by omega), cxd a0, if_pos (by omega), cxd a1, if_pos ⟨⟨by decide, by decide⟩, by rw [c3']; omega⟩, gle, gle, gle, if_pos (hg 0 (by decide)), gle, if_pos (hg 1 (by decide)), gle, if_pos (hg 2 (by decide)), gle, c2', c3', cl0, cl1, ← hA', if_pos (by omega), cpd f, if_pos (Nat.le_refl _), if_neg (by decide)]
  exact l848 c h' hs (by omega) (by omega) (by omega) (by omega)
theorem faultB {x f w : Nat} (h : IC A (n + 10) s F sz dp res) (hx : x < n + 10) (e : res x = .inl (f, w)) : 1 ≤ f ∧ f ≤ 4 ∧ w ≤ 40 := (h.2.2.2.2 x hx).2.2.2.2.2.2.2.1 f w e
set_option maxRecDepth 20000 in
theorem l573 (c : CT K84 n nm t S NB B p q F sz res) (h : IC A (n + 10) s F sz dp res) (hs : s ≤ S) (hN1 : 183 ≤ N) (hN : N + 1 ≤ NB) (k1 : k + (B + 634) ≤ 600130) (k2 : nn + 6 * (B + 634) ≤ 7301080) (hp : res p = .inr r) : mL_law_b573 xs L K84 N ln k nn A (nI n) (nI nm) (nI n) (nI (n + 1)) (nI (n + 2)) (nI t) (nI p) (nI q) (nI (n + 7)) (nI (n + 8)) (nI (n + 9)) (nI r.length) (nI (vrs r)) = some () := by
  obtain ⟨c1, c2, -, c4, c5, c6⟩ := id c
  have a2 := a_t2 h (show q < n + 10 by omega)
  have a0 := a_t0 h (show q < n + 10 by omega)
  unfold mL_law_b573
  rw [if_pos (by omega), cxd a2, if_pos (by omega), cxd a0]
  rcases pdec (res q) with ⟨f, w, e⟩ | ⟨r', e⟩
  · have hb := faultB h (by omega) e
    rw [(told_f e).1, if_neg (by rw [eq0F (by omega) (by omega)]; exact not_false)]
    exact l592 c h hs hN1 hN (by omega) (by omega) hp e
  · obtain ⟨t0, -, t2, -⟩ := told_r e
    rw [t0, t2, if_pos rfl]
    exact l633 c h hs hN1 hN (by omega) (by omega) hp e
set_option maxRecDepth 20000 in
theorem wh_L (c : CT K84 n nm t S NB B p q F sz res) (h : IC A (n + 10) s F sz dp res) (hs : s ≤ S) (hN1 : 183 ≤ N) (hN : N + 1 ≤ NB) (hp : res p = .inr r) : ∀ (f i k nn : Nat), i ≤ r.length → r.length - i < f → k + (B + 634 + 6 * (r.length - i)) ≤ 600130 → nn + 6 * (B + 634 + 6 * (r.length - i)) ≤ 7301080 → mL_law_L509 xs L K84 f N ln k nn A (nI n) (nI nm) (nI n) (nI (n + 1)) (nI (n + 2)) (nI t) (nI p) (nI q) (nI (n + 6)) (nI (n + 7)) (nI (n + 8)) (nI (n + 9)) (nI r.length) (nI (vrs r)) (nI i) = some ()
  | 0, i, k, nn, _, hf, _, _ => by omega
  | f + 1, i, k, nn, hi, hf, k1, k2 => by
    obtain ⟨c1, c2, ⟨-, -, c3, -⟩, c4, c5, c6⟩ := id c
    have hl := lenB h (by omega) hp
    show mL_law_b509 xs L K84 (mL_law_L509 xs L K84 f) N ln k nn A (nI n) (nI nm) (nI n) (nI (n + 1)) (nI (n + 2)) (nI t) (nI p) (nI q) (nI (n + 6)) (nI (n + 7)) (nI (n + 8)) (nI (n + 9)) (nI r.length) (nI (vrs r)) (nI i) = _
    unfold mL_law_b509
    by_cases e : i = r.length
    · rw [if_pos (by rw [nle (by omega) (by omega)]; omega)]
      exact l573 c h hs hN1 hN (by omega) (by omega) hp
    · rw [if_neg (by rw [nle (by omega) (by omega)]; omega)]
      by_cases y : 60 < r.length + 2
      · rw [if_pos (by rw [lq2, nI_add, lq60, nlt (by omega) (by omega)]; exact y)]
        exact l573 c h hs hN1 hN (by omega) (by omega) hp
      · have hw := c3 r hp
        rw [if_pos (by omega)] at hw
        obtain ⟨d, hd⟩ : ∃ d, r[i]? = some d := ⟨_, List.getElem?_eq_getElem (by omega)⟩
        have a1 := a_code h (show n + 6 < n + 10 by omega) hw (w := i + 2) (c := if d < 10 then d else d + 1) (by rw [show i + 2 = i + 1 + 1 by omega, List.getElem?_cons_succ, List.getElem?_cons_succ]; exact shf_at hd)
        have a2 := a_code h (show p < n + 10 by omega) hp hd
        have hdb := (codeB h (by omega) hp hd).1
        have ih := wh_L c h hs hN1 hN hp f (i + 1) (k + 2 + 2 + 2) (nn + 6 * 2 + 6 * 2 + 6 * 2) (by omega) (by omega) (by omega) (by omega)
        have i2 : nI i + 2 = nI (i + 2) := by rw [lq2, nI_add]
        unfold mL_law_b525 mL_law_b561
        rw [if_neg (by rw [lq2, nI_add, lq60, nlt (by omega) (by omega)]; exact y), if_pos (by omega), i2, cxd a1, if_pos (by omega), cxd a2, if_pos (by omega), cxd a2]
        by_cases z : d ≤ 9
        · rw [if_pos (by rw [lq9, nle (by omega) (by omega)]; exact z), if_pos (by rw [if_pos (by omega), zadd]), gle, nI_1]
          exact ih
        · rw [if_neg (by rw [lq9, nle (by omega) (by omega)]; exact z), if_pos (by rw [if_neg (by omega), nI_1]), gle, nI_1]
          exact ih
set_option maxRecDepth 20000 in
theorem l506 (c : CT K84 n nm t S NB B p q F sz res) (h : IC A (n + 10) s F sz dp res) (hs : s ≤ S) (hN1 : 183 ≤ N) (hN : N + 1 ≤ NB) (k1 : k + (B + 994) ≤ 600130) (k2 : nn + 6 * (B + 994) ≤ 7301080) (hp : res p = .inr r) : mL_law_b506 xs L K84 N ln k nn A (nI n) (nI nm) (nI n) (nI (n + 1)) (nI (n + 2)) (nI t) (nI p) (nI q) (nI (n + 6)) (nI (n + 7)) (nI (n + 8)) (nI (n + 9)) (nI r.length) (nI (vrs r)) = some () := by
  obtain ⟨c1, c2, -, c4, c5, c6⟩ := id c
  have hl := lenB h (by omega) hp
  have e := wh_L (xs := xs) (L := L) (ln := ln) c h hs hN1 hN hp gF 0 k nn (by omega) (by unfold gF; omega) (by omega) (by omega)
  rw [nI0] at e
  unfold mL_law_b506
  exact e
set_option maxRecDepth 20000 in
theorem l418 (c : CT K84 n nm t S NB B p q F sz res) (h : IC A (n + 10) s F sz dp res) (hs : s ≤ S) (hN1 : 183 ≤ N) (hN : N + 1 ≤ NB) (k1 : k + (B + 1002) ≤ 600130) (k2 : nn + 6 * (B + 1002) ≤ 7301080) (hp : res p = .inr r) : mL_law_b418 xs L K84 N ln k nn A (nI n) (nI nm) (nI n) (nI (n + 1)) (nI (n + 2)) (nI t) (nI p) (nI q) (nI (n + 6)) (nI (n + 7)) (nI (n + 8)) (nI (n + 9)) (nI r.length) (nI (vrs r)) = some () := by
  obtain ⟨c1, c2, ⟨-, -, c3, -⟩, c4, c5, c6⟩ := id c
  have hl := lenB h (by omega) hp
  have hw := c3 r hp
  have i2 : nI r.length + 2 = nI (r.length + 2) := by rw [lq2, nI_add]
  unfold mL_law_b418
  by_cases y : r.length + 2 ≤ 60
  · rw [if_pos y] at hw
    obtain ⟨-, -, t2, t3⟩ := told_r hw
    have a2 := a_t2 h (show n + 6 < n + 10 by omega)
    have a3 := a_t3 h (show n + 6 < n + 10 by omega)
    rw [t2] at a2
    rw [t3] at a3
    have b0 := a_c0 h (show n + 6 < n + 10 by omega) hw
    have b1 := a_c1 h (show n + 6 < n + 10 by omega) hw
    have e2 : (2 :: 10 :: shf 1 r).length = r.length + 2 := by rw [List.length_cons, List.length_cons, shf_len]
    have e3 : vrs (2 :: 10 :: shf 1 r) = vrs r + 1 := by
      rw [vrs_cons, vrs_cons, vrs_shf]
      by_cases z : vrs r = 0
      · rw [if_pos z]; omega
      · rw [if_neg z]; omega
    rw [if_pos (by rw [i2, lq60, nle (by omega) (by omega)]; exact y)]
    unfold mL_law_b453
    rw [if_pos (by omega), cxd a2, e2, if_pos i2.symm]
    unfold mL_law_b467
    rw [if_pos (by omega), cxd a3, e3, if_pos (by rw [nI_1])]
    unfold mL_law_b481
    rw [if_pos (by omega), cxd b0, if_pos (by rw [lq2]), if_pos (by omega), cxd b1, if_pos (by rw [lq10])]
    exact l506 c h hs hN1 hN (by omega) (by omega) hp
  · rw [if_neg y] at hw
    have a0 := a_t0 h (show n + 6 < n + 10 by omega)
    have a1 := a_t1 h (show n + 6 < n + 10 by omega)
    rw [(told_f hw).1] at a0
    rw [(told_f hw).2] at a1
    rw [if_neg (by rw [i2, lq60, nle (by omega) (by omega)]; exact y)]
    unfold mL_law_b427
    rw [if_pos (by omega), cxd a0, if_pos (by rw [lq4]), if_pos (by omega), cxd a1, if_pos rfl]
    exact l506 c h hs hN1 hN (by omega) (by omega) hp
set_option maxRecDepth 20000 in
theorem l382 {f w : Nat} (c : CT K84 n nm t S NB B p q F sz res) (h : IC A (n + 10) s F sz dp res) (hs : s ≤ S) (hN1 : 183 ≤ N) (hN : N + 1 ≤ NB) (k1 : k + (B + 60) ≤ 600130) (k2 : nn + 6 * (B + 60) ≤ 7301080) (hp : res p = .inl (f, w)) : mL_law_b382 xs L K84 N ln k nn A (nI n) (nI nm) (nI n) (nI (n + 1)) (nI (n + 2)) (nI t) (nI f) (nI w) (nI (n + 6)) (nI (n + 7)) (nI (n + 8)) (nI (n + 9)) = some () := by
  obtain ⟨c1, c2, ⟨-, c3, -⟩, c4, c5, c6⟩ := id c
  obtain ⟨h6, h7, h8, h9⟩ := c3 (f, w) hp
  have c2' : (2 : Int32).toNatClampNeg = 2 := by decide
  have c3' : (3 : Int32).toNatClampNeg = 3 := by decide
  have c4' : (4 : Int32).toNatClampNeg = 4 := by decide
  have hg : ∀ w : Int32, g_in w 4 = true → ((N < N + 1 ∧ 183 ≤ N ∧ va_up ln N (4 : Int32).toNatClampNeg N < 1000) ∧ g_in w (va_up ln N (4 : Int32).toNatClampNeg N) = true) := fun w hw => by
    rw [vaS rfl]
    exact ⟨⟨by omega, hN1, by decide⟩, hw⟩
  obtain ⟨A', hA'⟩ : ∃ A', A' = g_up (g_up (g_up (g_up (g_row A N (fun _ => 0)) N 0 (nI (n + 6))) N 1 (nI (n + 7))) N 2 (nI (n + 8))) N 3 (nI (n + 9)) := ⟨_, rfl⟩
  have h' : IC A' (n + 10) s F sz dp res := IC_arr h hN1 (fun a w q => by rw [hA', up_c q, up_c q, up_c q, up_c q, g_row_n q])
  have f := isFault_ok (xs := xs) (L := L) (N := N + 1) (ln := va_up ln N 4) (al := N) (m := 4) (x1 := nI f) (x2 := nI w) h' (by omega) hN1 (vaS rfl) (by omega) (fun j hj => by
    have : j = 0 ∨ j = 1 ∨ j = 2 ∨ j = 3 := by omega
    rcases this with rfl | rfl | rfl | rfl
    · exact ⟨n + 6, by omega, by rw [hA', up_p (by omega), up_p (by omega), up_p (by omega), up_s], (told_f h6).1, (told_f h6).2⟩
    · exact ⟨n + 7, by omega, by rw [hA', up_p (by omega), up_p (by omega), up_s], (told_f h7).1, (told_f h7).2⟩
    · exact ⟨n + 8, by omega, by rw [hA', up_p (by omega), up_s], (told_f h8).1, (told_f h8).2⟩
    · exact ⟨n + 9, by omega, by rw [hA', up_s], (told_f h9).1, (told_f h9).2⟩)
  unfold mL_law_b382
  rw [if_pos ⟨⟨by decide, by decide⟩, by rw [c4']; omega⟩, gle, gle, gle, if_pos (hg 0 (by decide)), gle, if_pos (hg 1 (by decide)), gle, if_pos (hg 2 (by decide)), gle, if_pos (hg 3 (by decide)), gle, c2', c3', c4', cl0, cl1, ← hA', if_pos (by omega), cpd f, if_pos (Nat.le_refl _), if_neg (by decide)]
  exact l848 c h' hs (by omega) (by omega) (by omega) (by omega)
set_option maxRecDepth 20000 in
theorem l359 (c : CT K84 n nm t S NB B p q F sz res) (h : IC A (n + 10) s F sz dp res) (hs : s ≤ S) (hN1 : 183 ≤ N) (hN : N + 1 ≤ NB) (k1 : k + (B + 1006) ≤ 600130) (k2 : nn + 6 * (B + 1006) ≤ 7301080) : mL_law_b359 xs L K84 N ln k nn A (nI n) (nI nm) (nI n) (nI (n + 1)) (nI (n + 2)) (nI t) (nI p) (nI q) (told (res p) 0) (told (res p) 1) (nI (n + 6)) (nI (n + 7)) (nI (n + 8)) (nI (n + 9)) = some () := by
  obtain ⟨c1, c2, -, c4, c5, c6⟩ := id c
  have a2 := a_t2 h (show p < n + 10 by omega)
  have a3 := a_t3 h (show p < n + 10 by omega)
  unfold mL_law_b359
  rw [if_pos (by omega), cxd a2, if_pos (by omega), cxd a3]
  rcases pdec (res p) with ⟨f, w, e⟩ | ⟨r, e⟩
  · have hb := faultB h (by omega) e
    rw [(told_f e).1, (told_f e).2, if_neg (by rw [eq0F (by omega) (by omega)]; exact not_false)]
    exact l382 c h hs hN1 hN (by omega) (by omega) e
  · obtain ⟨t0, -, t2, t3⟩ := told_r e
    rw [t0, t2, t3, if_pos rfl]
    exact l418 c h hs hN1 hN (by omega) (by omega) e
end BK
