/-! WHAT IS TOLD: own variables become seats -/
def back (sF : List Nat) (c : Nat) : Nat := if c < 10 then c else if c < 100 then sF.getD (c - 10) 0 else c
theorem seats_pre {keep : Nat → Bool} : ∀ (r : Rw) (s : List Nat), ∃ t, seatsOf keep s r = s ++ t
  | [], s => ⟨[], (List.append_nil s).symm⟩
  | c :: r, s => by
    rw [seats_cons]
    by_cases h : c < 10 ∨ keep c = true
    · rw [if_pos h]; exact seats_pre r s
    · rw [if_neg h]
      by_cases q : c ∈ s
      · rw [if_pos q]; exact seats_pre r s
      · rw [if_neg q]
        obtain ⟨t, ht⟩ := seats_pre (keep := keep) r (s ++ [c])
        exact ⟨c :: t, by rw [ht, List.append_assoc]; rfl⟩
theorem getD_l {s t : List Nat} {i : Nat} (h : i < s.length) : (s ++ t).getD i 0 = s.getD i 0 := by
  rw [List.getD_eq_getElem?_getD, List.getD_eq_getElem?_getD, List.getElem?_append_left h]
theorem getD_ix : ∀ {s : List Nat} {c : Nat}, c ∈ s → s.getD (s.idxOf c) 0 = c
  | x :: s, c, h => by
    rw [List.idxOf_cons]
    by_cases e : x = c
    · subst e; simp
    · rw [show (x == c) = false by simpa using e]
      have : c ∈ s := (List.mem_cons.mp h).elim (fun q => absurd q.symm e) id
      have ih := getD_ix this
      simpa using ih
theorem num_back {keep : Nat → Bool} : ∀ (r : Rw) (s : List Nat), (∀ x ∈ r, x < 10 ∨ 100 ≤ x) → (seatsOf keep s r).length ≤ 60 → (num keep s r).map (back (seatsOf keep s r)) = r
  | [], s, _, _ => rfl
  | c :: r, s, hx, hl => by
    have hr : ∀ x ∈ r, x < 10 ∨ 100 ≤ x := fun x hx2 => hx x (List.mem_cons_of_mem _ hx2)
    rw [num_cons]
    rw [seats_cons] at hl ⊢
    by_cases h : c < 10 ∨ keep c = true
    · rw [if_pos h] at hl ⊢
      rw [if_pos h, List.map_cons, num_back r s hr hl]
      congr 1
      unfold back
      by_cases q : c < 10
      · rw [if_pos q]
      · rw [if_neg q, if_neg (by have := hx c List.mem_cons_self; omega)]
    · rw [if_neg h] at hl ⊢
      rw [if_neg h]
      by_cases q : c ∈ s
      · rw [if_pos q] at hl ⊢
        rw [if_pos q, List.map_cons, num_back r s hr hl]
        congr 1
        obtain ⟨t, ht⟩ := seats_pre (keep := keep) r s
        have hi := List.idxOf_lt_length_of_mem q
        rw [ht, List.length_append] at hl
        unfold back
        rw [if_neg (by omega), if_pos (by omega), ht, show 10 + s.idxOf c - 10 = s.idxOf c by omega, getD_l hi, getD_ix q]
      · rw [if_neg q] at hl ⊢
        rw [if_neg q, List.map_cons, num_back r (s ++ [c]) hr hl]
        congr 1
        obtain ⟨t, ht⟩ := seats_pre (keep := keep) r (s ++ [c])
        rw [ht, List.length_append, List.length_append, List.length_singleton] at hl
        unfold back
        rw [if_neg (by omega), if_pos (by omega), ht, show 10 + s.length - 10 = s.length by omega, getD_l (by rw [List.length_append, List.length_singleton]; omega)]
        simp
theorem num_codes {keep : Nat → Bool} : ∀ (r : Rw) (s : List Nat), (∀ x ∈ r, x < 10 ∨ 100 ≤ x) → ∀ z ∈ num keep s r, (z < 10 ∧ z ∈ r) ∨ (100 ≤ z ∧ keep z = true ∧ z ∈ r) ∨ (10 ≤ z ∧ z - 10 < (seatsOf keep s r).length)
  | [], s, _, z, hz => by cases hz
  | c :: r, s, hx, z, hz => by
    have hr : ∀ x ∈ r, x < 10 ∨ 100 ≤ x := fun x hx2 => hx x (List.mem_cons_of_mem _ hx2)
    have up : ∀ s', (z < 10 ∧ z ∈ r) ∨ (100 ≤ z ∧ keep z = true ∧ z ∈ r) ∨ (10 ≤ z ∧ z - 10 < (seatsOf keep s' r).length) → (z < 10 ∧ z ∈ c :: r) ∨ (100 ≤ z ∧ keep z = true ∧ z ∈ c :: r) ∨ (10 ≤ z ∧ z - 10 < (seatsOf keep s' r).length) := fun s' q => q.elim (fun q => Or.inl ⟨q.1, List.mem_cons_of_mem _ q.2⟩) fun q => Or.inr (q.imp (fun q => ⟨q.1, q.2.1, List.mem_cons_of_mem _ q.2.2⟩) id)
    rw [num_cons] at hz
    rw [seats_cons]
    by_cases h : c < 10 ∨ keep c = true
    · rw [if_pos h] at hz ⊢
      rcases List.mem_cons.mp hz with rfl | hz
      · by_cases q : z < 10
        · exact Or.inl ⟨q, List.mem_cons_self⟩
        · exact Or.inr (Or.inl ⟨by have := hx z List.mem_cons_self; omega, h.elim (fun y => absurd y q) id, List.mem_cons_self⟩)
      · exact up s (num_codes r s hr z hz)
    · rw [if_neg h] at hz ⊢
      by_cases q : c ∈ s
      · rw [if_pos q] at hz ⊢
        rcases List.mem_cons.mp hz with rfl | hz
        · obtain ⟨t, ht⟩ := seats_pre (keep := keep) r s
          have hi := List.idxOf_lt_length_of_mem q
          rw [ht, List.length_append]
          exact Or.inr (Or.inr ⟨by omega, by omega⟩)
        · exact up s (num_codes r s hr z hz)
      · rw [if_neg q] at hz ⊢
        rcases List.mem_cons.mp hz with rfl | hz
        · obtain ⟨t, ht⟩ := seats_pre (keep := keep) r (s ++ [c])
          rw [ht, List.length_append, List.length_append, List.length_singleton]
          exact Or.inr (Or.inr ⟨by omega, by omega⟩)
        · exact up (s ++ [c]) (num_codes r (s ++ [c]) hr z hz)
theorem seats_in {keep : Nat → Bool} : ∀ (r : Rw) (s : List Nat), ∀ x ∈ seatsOf keep s r, x ∈ s ∨ (x ∈ r ∧ ¬ (x < 10 ∨ keep x = true))
  | [], s, x, hx => Or.inl hx
  | c :: r, s, x, hx => by
    have up : ∀ s', x ∈ seatsOf keep s' r → x ∈ s' ∨ (x ∈ c :: r ∧ ¬ (x < 10 ∨ keep x = true)) := fun s' q => (seats_in r s' x q).imp id fun q => ⟨List.mem_cons_of_mem _ q.1, q.2⟩
    rw [seats_cons] at hx
    by_cases h : c < 10 ∨ keep c = true
    · rw [if_pos h] at hx; exact up s hx
    · rw [if_neg h] at hx
      by_cases q : c ∈ s
      · rw [if_pos q] at hx; exact up s hx
      · rw [if_neg q] at hx
        rcases up _ hx with z | z
        · rcases List.mem_append.mp z with z | z
          · exact Or.inl z
          · rw [List.mem_singleton] at z; subst z; exact Or.inr ⟨List.mem_cons_self, h⟩
        · exact Or.inr z
theorem seats_nd {keep : Nat → Bool} : ∀ (r : Rw) (s : List Nat), s.Nodup → (seatsOf keep s r).Nodup
  | [], s, h => h
  | c :: r, s, h => by
    rw [seats_cons]
    by_cases q : c < 10 ∨ keep c = true
    · rw [if_pos q]; exact seats_nd r s h
    · rw [if_neg q]
      by_cases q2 : c ∈ s
      · rw [if_pos q2]; exact seats_nd r s h
      · rw [if_neg q2]
        refine seats_nd r _ ?_
        rw [List.nodup_append]
        refine ⟨h, by simp, fun a ha d hd => ?_⟩
        rw [List.mem_singleton] at hd
        subst hd
        exact fun e => q2 (by rw [← e]; exact ha)
theorem getD_mem : ∀ {s : List Nat} {i : Nat}, i < s.length → s.getD i 0 ∈ s
  | x :: s, 0, _ => by simp
  | x :: s, i + 1, h => by
    have : s.getD i 0 ∈ s := getD_mem (by simpa using h)
    simpa using Or.inr this
theorem nd_inj : ∀ {s : List Nat}, s.Nodup → ∀ {i j : Nat}, i < s.length → j < s.length → s.getD i 0 = s.getD j 0 → i = j
  | x :: s, hn, 0, 0, _, _, _ => rfl
  | x :: s, hn, 0, j + 1, _, hj, e => by
    rw [List.nodup_cons] at hn
    have hj' : j < s.length := by simpa using hj
    have e' : x = s.getD j 0 := by simpa using e
    exact absurd (e' ▸ getD_mem hj') hn.1
  | x :: s, hn, i + 1, 0, hi, _, e => by
    rw [List.nodup_cons] at hn
    have hi' : i < s.length := by simpa using hi
    have e' : s.getD i 0 = x := by simpa using e
    exact absurd (e' ▸ getD_mem hi') hn.1
  | x :: s, hn, i + 1, j + 1, hi, hj, e => by
    rw [List.nodup_cons] at hn
    have := nd_inj hn.2 (i := i) (j := j) (by simpa using hi) (by simpa using hj) (by simpa using e)
    omega
theorem tk_num {keep : Nat → Bool} : ∀ (r : Rw) (s : List Nat) (k : Nat), tk k (num keep s r) = tk k r
  | [], s, k => rfl
  | c :: r, s, 0 => by
    rw [num_cons]
    by_cases h : c < 10 ∨ keep c = true
    · rw [if_pos h]; rfl
    · rw [if_neg h]
      by_cases q : c ∈ s
      · rw [if_pos q]; rfl
      · rw [if_neg q]; rfl
  | c :: r, s, k + 1 => by
    rw [num_cons]
    by_cases h : c < 10 ∨ keep c = true
    · rw [if_pos h]
      show tk (k + ar c) (num keep s r) = tk (k + ar c) r
      exact tk_num r s _
    · have a1 : ar c = 0 := if_neg (by omega)
      rw [if_neg h]
      by_cases q : c ∈ s
      · rw [if_pos q]
        show tk (k + ar (10 + s.idxOf c)) (num keep s r) = tk (k + ar c) r
        rw [a1, show ar (10 + s.idxOf c) = 0 from if_neg (by omega)]
        exact tk_num r s _
      · rw [if_neg q]
        show tk (k + ar (10 + s.length)) (num keep (s ++ [c]) r) = tk (k + ar c) r
        rw [a1, show ar (10 + s.length) = 0 from if_neg (by omega)]
        exact tk_num r _ _
/-- the variables that are around -/
def evs (env : Nat → Rw) (Tc : Nat → Rw) (ar : Nat) (x : Nat) : Prop := 10 ≤ x ∧ ∃ k, k < ar ∧ ∃ c ∈ env k, 100 ≤ c ∧ x ∈ Tc (c - 100)
section TD
variable {Ac : gM} {uc : Nat} {Tc : Nat → Rw} {sc : Nat} {Ar : gM} {cp ur : Nat} {Tr : Nat → Rw} {ρ : Nat → Nat} {V W : Nat → Prop} {Ac1 : gM} {uc1 : Nat} {Tc1 : Nat → Rw} {sc1 : Nat} {Ar1 : gM} {cp1 ur1 : Nat} {Tr1 : Nat → Rw} {ρ1 : Nat → Nat} {V1 W1 : Nat → Prop} {b ar : Nat} {env : Nat → Rw} {om : Nat → Nat → Nat} {tn : Nat → Nat} {ze zl zt : Nat}
theorem Sim_env (h : Sim Ac uc Tc sc Ar cp b ur Tr ρ V W ar env om tn ze zl zt) : Sim Ac uc Tc sc Ar cp b ur Tr ρ V (evs env Tc ar) ar env om tn ze zl zt := by
  obtain ⟨s1, s2, s3, s4, s5, s6, s7, s8⟩ := h
  refine ⟨s1, s2, s3, s4, fun x hx => ?_, s6, fun k hk => ?_, s8⟩
  · obtain ⟨h1, k, hk, c, hc, h2, h3⟩ := hx
    rcases (s7 k hk).2.2.2.2.2.2.2.2.2.1 c hc h2 x h3 with q | q
    · omega
    · exact s5 x q
  · obtain ⟨e1, e2, e3, e4, e5, e6, e7, e8, e9, e10, e11, e12⟩ := s7 k hk
    refine ⟨e1, e2, e3, e4, e5, e6, e7, e8, e9, fun c hc h2 x hx => ?_, e11, e12⟩
    by_cases q : x < 10
    · exact Or.inl q
    · exact Or.inr ⟨by omega, k, hk, c, hc, h2, hx⟩
theorem told_drop {k1 n1 du dr dp ds rc rr : Nat} (h : Sim Ac uc Tc sc Ar cp b ur Tr ρ V W ar env om tn ze zl zt) (g1 : Prog Ac uc Tc sc Ar cp b ur Tr ρ V (evs env Tc ar) ar env om tn ze zl zt Ac1 uc1 Tc1 sc1 Ar1 cp1 ur1 Tr1 ρ1 V1 W1 k1 n1 du dr dp ds) (w1 : RowR uc1 Tc1 b ur1 Tr1 ρ1 W1 rc rr) (hlen : (Tc1 rc).length ≤ 60) (hp : (prs Ar1 b ur1).length < 1250) (hsb : sc1 < 2000000000) :
    ∃ Acm Acw Aro V1' W1' R o, mX1_markAll Ac1 = some Acm ∧ mX4_write Acm (nI rc) = some (Acw, nI R.length) ∧ mX6_own cp1 62 Ar1 (nI rr) = some Aro ∧ Prog Ac uc Tc sc Ar cp b ur Tr ρ V W ar env om tn ze zl zt Acw uc1 Tc1 (sc1 + 1) Aro cp1 ur1 Tr1 ρ1 V1' W1' k1 n1 du dr dp (ds + 1) ∧
      rowIn Acw 182 R ∧ Ty R ∧ R.length ≤ 60 ∧ codesB uc1 R ∧ Tr1 rr = subE (em ρ1 Tc1 o) R ∧ (∀ c ∈ R, 100 ≤ c → ∀ x ∈ Tc1 (c - 100), lowV W1' x) ∧ (∀ c ∈ R, 10 ≤ c → c < 100 → o (c - 10) < ur1 ∧ ¬ Aro 188 (o (c - 10)) = 0) ∧ ∀ c ∈ R, ∀ d ∈ R, 10 ≤ c → c < 100 → 10 ≤ d → d < 100 → o (c - 10) = o (d - 10) → c = d := by
  obtain ⟨⟨chc0, s1⟩, s2, ⟨chr0, s3⟩, s4, s5, s6, s7, s8⟩ := id h
  obtain ⟨p1, p2, p3, p4, p5, p6, p7, p8, p9, p10, p11, p12⟩ := id g1
  obtain ⟨⟨chc, t1⟩, t2, ⟨chr, t3⟩, t4, t5, t6, t7, t8⟩ := id p1
  obtain ⟨a1, a2, a3, a4, a5, sC, sR, a6, a7, a8, a9, a10, a11, a12, a13⟩ := id p3
  obtain ⟨r1, r2, r3, r4⟩ := w1
  have hcp := okc_le t3.1.2.1
  have huu := t3.1.2.2.1
  have hu1 := t1.2.2.1
  -- codes of the told row
  have cod : ∀ x ∈ Tc1 rc, x < 10 ∨ 100 ≤ x := fun x hx => by
    rcases sT_code t1 rc r1 x hx with q | ⟨v, q1, q2, q3, -⟩ <;> omega
  have inV : ∀ x ∈ Tc1 rc, 10 ≤ x → V1 x ∧ (V x → evs env Tc ar x) := fun x hx h10 => by
    rcases r4 x hx with q | q
    · omega
    · exact (p2 x).mp q
  -- own ones
  obtain ⟨O, hO⟩ : ∃ O : Nat → Prop, ∀ x, O x ↔ 10 ≤ x ∧ x ∈ Tc1 rc ∧ ¬ evs env Tc1 ar x := ⟨fun x => 10 ≤ x ∧ x ∈ Tc1 rc ∧ ¬ evs env Tc1 ar x, fun _ => Iff.rfl⟩
  have freeC : ∀ x ∈ Tc1 rc, 10 ≤ x → Tc1 (x - 100) = [x] ∧ x - 100 < uc1 := fun x hx h10 => by
    rcases sT_code t1 rc r1 x hx with q | ⟨v, q1, q2, q3, -, q5⟩
    · omega
    · subst q3; rw [show 100 + v - 100 = v by omega]; exact ⟨q5, q1⟩
  have noV : ∀ x, O x → ¬ V x := by
    intro x hx hv
    obtain ⟨h10, hx1, hn⟩ := (hO x).mp hx
    obtain ⟨-, k, hk, c, hc, hc1, hxc⟩ := (inV x hx1 h10).2 hv
    have hcu : c - 100 < uc := by have := (s7 k hk).2.2.2.2.2.2.2.1 c hc; omega
    have hxf : Tc (x - 100) = [x] ∧ x - 100 < uc := by
      rcases sT_code s1 _ hcu x hxc with q | ⟨v, q1, q2, q3, -, q5⟩
      · omega
      · subst q3; rw [show 100 + v - 100 = v by omega]; exact ⟨q5, q1⟩
    have e1 := (freeC x hx1 h10).1
    rw [a7 _ hxf.2, hxf.1, subE_one] at e1
    refine hn ⟨h10, k, hk, c, hc, hc1, ?_⟩
    rw [a7 _ hcu]
    exact subE_mem.mpr ⟨x, hxc, by rw [e1]; exact List.mem_singleton.mpr rfl⟩
  have envV : ∀ x, evs env Tc1 ar x → W1 x := fun x hx => by
    obtain ⟨h1, k, hk, c, hc, h2, h3⟩ := hx
    rcases (t7 k hk).2.2.2.2.2.2.2.2.2.1 c hc h2 x h3 with q | q
    · omega
    · exact q
  -- the class marks and writes
  have hrows : rowsOK Ac1 uc1 ar env := ⟨t6.1, t6.2.2, fun k hk => ⟨(t7 k hk).2.1, (t7 k hk).2.2.2.2.2.2.1, (t7 k hk).2.2.1, (t7 k hk).2.2.2.2.2.2.2.1⟩⟩
  obtain ⟨Acm, m1, m2, m3, m4⟩ := markAll_ok t1 t2 hsb hrows
  have sm : sameS Ac1 Acm := ⟨m3 _ _ (by omega) (by omega) (by omega), funext fun x => m3 _ x (by omega) (by omega) (by omega), funext fun x => m3 _ x (by omega) (by omega) (by omega), funext fun x => m3 _ x (by omega) (by omega) (by omega)⟩
  obtain ⟨Acw, y1, y2, y3⟩ := write_ok (sT_same sm t1) r1
  rw [if_pos hlen] at y1
  have y3 := y3 hlen
  have hkp : ∀ x ∈ Tc1 rc, 10 ≤ x → (kp Acm x = true ↔ evs env Tc1 ar x) := fun x hx h10 => by
    obtain ⟨f1, f2⟩ := freeC x hx h10
    have h100 : 100 ≤ x := by have := cod x hx; omega
    have ex : 100 + (x - 100) = x := Nat.add_sub_cancel' h100
    have e := m4 (x - 100) f2 (by rw [f1, ex])
    rw [ex] at e
    have e2 : kp Acm x = true ↔ mkd Acm (x - 100) := by unfold kp mkd; exact decide_eq_true_iff
    rw [e2, e]
    exact ⟨fun ⟨j, z1, z2⟩ => ⟨h10, j, z1, z2⟩, fun ⟨_, j, z1, z2⟩ => ⟨j, z1, z2⟩⟩
  obtain ⟨R, hR⟩ : ∃ R, R = num (kp Acm) [] (Tc1 rc) := ⟨_, rfl⟩
  obtain ⟨sF, hsF⟩ : ∃ sF, sF = seatsOf (kp Acm) [] (Tc1 rc) := ⟨_, rfl⟩
  have hRl : R.length = (Tc1 rc).length := by rw [hR, num_len]
  have hsl : sF.length ≤ 60 := by rw [hsF]; have := seats_le (keep := kp Acm) (Tc1 rc) []; rw [List.length_nil] at this; omega
  have hback : R.map (back sF) = Tc1 rc := by rw [hR, hsF]; exact num_back _ _ cod (by rw [← hsF]; exact hsl)
  have hcodes : ∀ z ∈ R, (z < 10 ∧ z ∈ Tc1 rc) ∨ (100 ≤ z ∧ kp Acm z = true ∧ z ∈ Tc1 rc) ∨ (10 ≤ z ∧ z - 10 < sF.length) := by rw [hR, hsF]; exact num_codes _ _ cod
  have seatO : ∀ i, i < sF.length → O (sF.getD i 0) := fun i hi => by
    have hm := getD_mem hi
    rw [hsF] at hm
    rcases seats_in _ _ _ hm with q | ⟨q1, q2⟩
    · cases q
    · rw [← hsF] at q1 q2
      have h10 : 10 ≤ sF.getD i 0 := by
        by_cases z : sF.getD i 0 < 10
        · exact absurd (Or.inl z) q2
        · omega
      exact (hO _).mpr ⟨h10, q1, fun z => q2 (Or.inr ((hkp _ q1 h10).mpr z))⟩
  -- the reference flags
  obtain ⟨P, S, c1, c2, c3, c4⟩ := reach_ok t3.1 rr r2.2
  have hlr : (Tr1 rr).length ≤ 60 := by rw [← r3, rn_len]; exact hlen
  obtain ⟨tn', htn0, htn1⟩ : ∃ tn' : Nat → Nat, (∀ j, j < ze → tn' j = zt) ∧ ∀ k, tn' (k + ze) = tn k := ⟨fun j => if j < ze then zt else tn (j - ze), fun j hj => if_pos hj, fun k => by
    show (if k + ze < ze then zt else tn (k + ze - ze)) = tn k
    rw [if_neg (by omega), Nat.add_sub_cancel]⟩
  have henv : envR Ar1 b ur1 (ar + ze) tn' := ⟨t6.2.1, by have := t6.2.2; have := t8.1; omega, fun j hj => by
    by_cases q : j < ze
    · rw [htn0 j q]; have := t8.2 j q; exact ⟨this.2.2.1, this.2.2.2.1⟩
    · obtain ⟨k, rfl⟩ : ∃ k, j = k + ze := ⟨j - ze, by omega⟩
      rw [htn1 k]; exact ⟨(t7 k (by omega)).2.2.2.1, (t7 k (by omega)).2.2.2.2.1⟩⟩
  obtain ⟨Aro, o1, o2, o3, o4, o5⟩ := own_ok c4 62 Ar1 rr 0 t3.1 t3.2.1 hp henv c2 c1 abv_0 (by omega)
  have hround : ∀ x, V1 x → ((∃ k, k < ar + ze ∧ ρ1 x ∈ Tr1 (tn' k)) ↔ evs env Tc1 ar x) := by
    intro x hx
    have hx2 := t4.2 x hx
    constructor
    · rintro ⟨j, hj, hm⟩
      by_cases qj : j < ze
      · rw [htn0 j qj] at hm
        have := t8.2 j qj
        rw [this.2.2.2.2.1, List.mem_singleton] at hm
        exact absurd hm (this.2.2.2.2.2 x hx)
      obtain ⟨k, rfl⟩ : ∃ k, j = k + ze := ⟨j - ze, by omega⟩
      rw [htn1 k] at hm
      have hk : k < ar := by omega
      obtain ⟨e1, e2, e3, e4, e5, e6, e7, e8, e9, e10, e11, e12⟩ := t7 k hk
      rw [e9] at hm
      obtain ⟨c, hc, hm⟩ := subE_mem.mp hm
      unfold em at hm
      by_cases q1 : c < 10
      · rw [if_pos q1, List.mem_singleton] at hm; omega
      · rw [if_neg q1] at hm
        by_cases q2 : c < 100
        · rw [if_pos q2, List.mem_singleton] at hm
          have := e11 c hc (by omega) q2
          rw [hm, show 10 + om k (c - 10) - 10 = om k (c - 10) by omega] at hx2
          exact absurd hx2.2.2.2.2 this.2
        · rw [if_neg q2] at hm
          have := (rn_in t4.1 (Or.inr hx) fun y hy => (e10 c hc (by omega) y hy).imp id (t5 y)).mp hm
          exact ⟨by omega, k, hk, c, hc, by omega, this⟩
    · rintro ⟨h10, k, hk, c, hc, h1, hm⟩
      obtain ⟨e1, e2, e3, e4, e5, e6, e7, e8, e9, e10, e11, e12⟩ := t7 k hk
      refine ⟨k + ze, by omega, ?_⟩
      rw [htn1 k, e9]
      refine subE_mem.mpr ⟨c, hc, ?_⟩
      unfold em
      rw [if_neg (by omega), if_neg (by omega)]
      exact rn_mem.mpr ⟨x, hm, rfl⟩
  have inTr : ∀ x, V1 x → (ρ1 x ∈ Tr1 rr ↔ x ∈ Tc1 rc) := fun x hx => by
    rw [← r3]; exact rn_in t4.1 (Or.inr hx) fun y hy => (r4 y hy).imp id (t5 y)
  have flagO : ∀ x, O x → Aro 188 (ρ1 x - 10) = 1 := fun x hx => by
    obtain ⟨h10, hx1, hn⟩ := (hO x).mp hx
    have hv := (inV x hx1 h10).1
    have hx2 := t4.2 x hv
    have hm := (inTr x hv).mpr hx1
    have e10 : 10 + (ρ1 x - 10) = ρ1 x := by omega
    refine (o4 (ρ1 x - 10) (by rw [e10]; exact hm)).2 ?_
    rw [e10]
    exact fun z => hn ((hround x hv).mp z)
  have flagN : ∀ x, V1 x → ¬ O x → Aro 188 (ρ1 x - 10) = 0 := fun x hv hn => by
    have hx2 := t4.2 x hv
    have e10 : 10 + (ρ1 x - 10) = ρ1 x := by omega
    by_cases hm : x ∈ Tc1 rc
    · refine (o4 (ρ1 x - 10) (by rw [e10]; exact (inTr x hv).mpr hm)).1 ?_
      rw [e10]
      refine (hround x hv).mpr ?_
      by_cases z : evs env Tc1 ar x
      · exact z
      · exact absurd ((hO x).mpr ⟨by omega, hm, z⟩) hn
    · rw [o5 (ρ1 x - 10) (by rw [e10]; exact fun z => hm ((inTr x hv).mp z))]
      exact hx2.2.2.2.2
  have flag0 : ∀ m, ¬ Ar1 188 m = 0 → Aro 188 m = Ar1 188 m := fun m hm => by
    refine o5 m fun z => ?_
    rw [← r3] at z
    obtain ⟨x, hx, hxe⟩ := rn_mem.mp z
    rcases r4 x hx with q | q
    · rw [t4.1.low x q] at hxe; omega
    · have := t4.2 x (t5 x q)
      rw [hxe, show 10 + m - 10 = m by omega] at this
      exact hm this.2.2.2.2
  have flagold : ∀ m, m < ur → Aro 188 m = Ar 188 m := fun m hm => by
    rw [← a5 m hm]
    by_cases z : 10 + m ∈ Tr1 rr
    · have z0 := z
      rw [← r3] at z
      obtain ⟨x, hx, hxe⟩ := rn_mem.mp z
      rcases r4 x hx with q | q
      · rw [t4.1.low x q] at hxe; omega
      · have hv := t5 x q
        have hx2 := t4.2 x hv
        have hxV : V x := by
          by_cases y : V x
          · exact y
          · have := (a4 x hv y).2; omega
        have := flagN x hv fun y => noV x y hxV
        rw [hxe, show 10 + m - 10 = m by omega] at this hx2
        rw [this, hx2.2.2.2.2]
    · exact o5 m z
  -- the state without the own ones
  obtain ⟨V1', hV1⟩ : ∃ V1' : Nat → Prop, ∀ x, V1' x ↔ V1 x ∧ ¬ O x := ⟨fun x => V1 x ∧ ¬ O x, fun _ => Iff.rfl⟩
  obtain ⟨W1', hW1⟩ : ∃ W1' : Nat → Prop, ∀ x, W1' x ↔ V1' x ∧ (V x → W x) := ⟨fun x => V1' x ∧ (V x → W x), fun _ => Iff.rfl⟩
  have evW : ∀ x, evs env Tc ar x → W x := fun x ⟨h1, k, hk, c, hc, h2, h3⟩ => by
    rcases (s7 k hk).2.2.2.2.2.2.2.2.2.1 c hc h2 x h3 with q | q
    · omega
    · exact q
  have w1w : ∀ x, W1 x → ¬ O x → W1' x := fun x hx hn => (hW1 x).mpr ⟨(hV1 x).mpr ⟨t5 x hx, hn⟩, fun z => evW x (((p2 x).mp hx).2 z)⟩
  have evO : ∀ x, evs env Tc1 ar x → ¬ O x := fun x hx z => ((hO x).mp z).2.2 hx
  have adv : Adv uc Tc ur Tr ρ V W Ar uc1 Tc1 ur1 Tr1 ρ1 V1' Aro := by
    have cut : ∀ v, V v → ∀ x ∈ sC v, 10 ≤ x → ¬ O x := by
      intro v hv x hx h10
      by_cases z : evs env Tc ar v
      · obtain ⟨h1, k, hk, c, hc, h2, h3⟩ := z
        refine evO x ⟨h10, k, hk, c, hc, h2, ?_⟩
        have hcu : c - 100 < uc := by have := (s7 k hk).2.2.2.2.2.2.2.1 c hc; omega
        rw [a7 _ hcu]
        exact subE_mem.mpr ⟨v, h3, hx⟩
      · rw [a10 v hv z, List.mem_singleton] at hx
        subst hx
        exact fun y => noV x y hv
    refine ⟨a1, a2, fun x hx => ⟨(hV1 x).mpr ⟨(a3 x hx).1, fun z => noV x z hx⟩, (a3 x hx).2⟩, fun x hx hn => a4 x ((hV1 x).mp hx).1 hn, flagold, sC, sR, a6, a7, a8, fun v hv => ⟨(a9 v hv).1, fun x hx => ?_⟩, fun v hv hn => a10 v hv fun z => hn (evW v z), fun v hv x hx => ?_, a12, fun x hx hn => a13 x hx fun v hv => hn v (evW v hv)⟩
    · by_cases z : x < 10
      · exact Or.inl z
      · exact Or.inr ((hV1 x).mpr ⟨((a9 v hv).2 x hx).elim (fun y => absurd y z) id, cut v hv x hx (by omega)⟩)
    · by_cases z : x < 10
      · exact Or.inl z
      · have hvV := s5 v hv
        have xV1 : V1 x := ((a9 v hvV).2 x hx).elim (fun y => absurd y z) id
        refine Or.inr ⟨(hV1 x).mpr ⟨xV1, cut v hvV x hx (by omega)⟩, fun y => ?_⟩
        by_cases zz : evs env Tc ar v
        · rcases a11 v zz x hx with q | q
          · exact absurd q z
          · exact evW x (q.2 y)
        · rw [a10 v hvV zz, List.mem_singleton] at hx
          rw [hx]; exact hv
  have oCw : ∀ a x, a ≠ 133 → a ≠ 134 → a ≠ 137 → a ≠ 182 → a ≠ 129 → Acw a x = Ac1 a x := fun a x q1 q2 q3 q4 q5 => by rw [y2 a x q2 q3 q4 (by omega), m3 a x q1 q2 (by omega)]
  have sSw : sameS Ac1 Acw := sameS_tr sm (offW_S y2)
  have pe : prs Aro b ur1 = prs Ar1 b ur1 := prs_off fun n _ => o2 185 n (by omega)
  have simd : Sim Acw uc1 Tc1 (sc1 + 1) Aro cp1 b ur1 Tr1 ρ1 V1' W1' ar env om tn ze zl zt := by
    refine ⟨⟨chc, sT_same sSw t1⟩, stI_off m2 (y2 129 10 (by omega) (by omega) (by omega) (by omega)) (funext fun x => y2 133 x (by omega) (by omega) (by omega) (by omega)), ⟨chr, rS_188 o2 o3 t3.1, by unfold RG; rw [pe]; exact reg_188 o2 t3.2.1, fun n hn => by rw [o2 189 n (by omega)]; exact t3.2.2.1 n hn, t3.2.2.2⟩, ⟨⟨t4.1.low, t4.1.high, fun x y hx hy e => t4.1.inj x y (hx.imp id fun z => ((hV1 x).mp z).1) (hy.imp id fun z => ((hV1 y).mp z).1) e⟩, fun x hx => ?_⟩, fun x hx => ((hW1 x).mp hx).1, ⟨by rw [oCw _ _ (by omega) (by omega) (by omega) (by omega) (by omega)]; exact t6.1, by rw [o2 _ _ (by omega)]; exact t6.2.1, t6.2.2⟩, fun k hk => ?_, t8.1, fun j hj => ?_⟩
    · have z := (hV1 x).mp hx
      have := t4.2 x z.1
      exact ⟨this.1, this.2.1, this.2.2.1, this.2.2.2.1, flagN x z.1 z.2⟩
    · obtain ⟨⟨l', e0, e1, e1'⟩, e2, e3, e4, e5, e6, e7, e8, e9, e10, e11, e12⟩ := t7 k hk
      have hk40 := t6.2.2
      refine ⟨⟨l', e0, by rw [oCw _ _ (by omega) (by omega) (by omega) (by omega) (by omega)]; exact e1, by rw [o2 _ _ (by omega)]; exact e1'⟩, by rw [oCw _ _ (by omega) (by omega) (by omega) (by omega) (by omega)]; exact e2, fun i c hi => by rw [oCw _ _ (by omega) (by omega) (by omega) (by omega) (by omega)]; exact e3 i c hi, by rw [o2 _ _ (by omega)]; exact e4, e5, e6, e7, e8, e9, fun c hc h2 x hx => ?_, fun c hc h1 h2 => ⟨(e11 c hc h1 h2).1, by rw [flag0 _ (e11 c hc h1 h2).2]; exact (e11 c hc h1 h2).2⟩, e12⟩
      by_cases z : x < 10
      · exact Or.inl z
      · have ev : evs env Tc1 ar x := ⟨by omega, k, hk, c, hc, h2, hx⟩
        exact Or.inr (w1w x (envV x ev) (evO x ev))
    · obtain ⟨x0, x1, x2, x3, x4, x5⟩ := t8.2 j hj
      exact ⟨x0, by rw [o2 _ _ (by omega)]; exact x1, by rw [o2 _ _ (by omega)]; exact x2, x3, x4, fun x hx => x5 x ((hV1 x).mp hx).1⟩
  refine ⟨Acm, Acw, Aro, V1', W1', R, fun i => ρ1 (sF.getD i 0) - 10, m1, by rw [hRl]; exact y1, o1, ⟨simd, hW1, adv, p4, fun a x q => ?_, fun a x q => ?_, p7, p8, by rw [pe]; exact p9, by omega, by rw [o2 _ _ (by omega)]; exact p11, by rw [o2 _ _ (by omega)]; exact p12⟩, fun i c hi => (y3 i c (by rw [← hR]; exact hi)).1, ?_, by omega, fun z hz => ?_, ?_, fun c hc h1 x hx => ?_, fun c hc h1 h2 => ?_, fun c hc d hd h1 h2 h3 h4 e => ?_⟩
  · rw [oCw a x (by omega) (by omega) (by omega) (by omega) (by omega)]; exact p5 a x q
  · rw [o2 a x (by omega)]; exact p6 a x q
  · rw [hR]; unfold Ty; rw [tk_num]; exact sT_Ty t1 rc r1
  · rcases hcodes z hz with ⟨q1, q2⟩ | ⟨q1, q2, q3⟩ | ⟨q1, q2⟩
    · rcases sT_code t1 rc r1 z q2 with y | ⟨v, y1, y2, y3, -⟩
      · exact Or.inl (by omega)
      · omega
    · have := freeC z q3 (by omega)
      exact Or.inr (Or.inr ⟨q1, this.2⟩)
    · exact Or.inr (Or.inl ⟨q1, by omega⟩)
  · have e1 : Tr1 rr = rn ρ1 (R.map (back sF)) := by rw [hback]; exact r3.symm
    rw [e1]
    have e2 : ∀ r : Rw, rn ρ1 (r.map (back sF)) = subE (fun c => [ρ1 (back sF c)]) r := by
      intro r
      induction r with
      | nil => rfl
      | cons c r ih => rw [List.map_cons, rn_cons, ih, subE_cons]; rfl
    rw [e2]
    refine subE_cg fun c hc => ?_
    unfold em
    rcases hcodes c hc with ⟨q1, q2⟩ | ⟨q1, q2, q3⟩ | ⟨q1, q2⟩
    · rw [if_pos q1]; unfold back; rw [if_pos q1, t4.1.low c q1]
    · rw [if_neg (by omega), if_neg (by omega), (freeC c q3 (by omega)).1, rn_one]; unfold back; rw [if_neg (by omega), if_neg (by omega)]
    · rw [if_neg (by omega), if_pos (by omega)]
      unfold back
      rw [if_neg (by omega), if_pos (by omega)]
      have ho := (hO _).mp (seatO _ q2)
      have := t4.2 _ (inV _ ho.2.1 ho.1).1
      show [ρ1 (sF.getD (c - 10) 0)] = [10 + (ρ1 (sF.getD (c - 10) 0) - 10)]
      rw [show 10 + (ρ1 (sF.getD (c - 10) 0) - 10) = ρ1 (sF.getD (c - 10) 0) by omega]
  · rcases hcodes c hc with ⟨q1, q2⟩ | ⟨q1, q2, q3⟩ | ⟨q1, q2⟩
    · omega
    · rw [(freeC c q3 (by omega)).1, List.mem_singleton] at hx
      subst hx
      have ev := (hkp x q3 (by omega)).mp q2
      exact Or.inr (w1w x (envV x ev) (evO x ev))
    · omega
  · rcases hcodes c hc with ⟨q1, q2⟩ | ⟨q1, q2, q3⟩ | ⟨q1, q2⟩
    · omega
    · omega
    · have ho := (hO _).mp (seatO _ q2)
      have := t4.2 _ (inV _ ho.2.1 ho.1).1
      refine ⟨by show ρ1 (sF.getD (c - 10) 0) - 10 < ur1; omega, ?_⟩
      show ¬ Aro 188 (ρ1 (sF.getD (c - 10) 0) - 10) = 0
      rw [flagO _ (seatO _ q2)]; decide
  · have e : ρ1 (sF.getD (c - 10) 0) - 10 = ρ1 (sF.getD (d - 10) 0) - 10 := e
    have qc : c - 10 < sF.length := by rcases hcodes c hc with ⟨q1, q2⟩ | ⟨q1, q2, q3⟩ | ⟨q1, q2⟩ <;> omega
    have qd : d - 10 < sF.length := by rcases hcodes d hd with ⟨q1, q2⟩ | ⟨q1, q2, q3⟩ | ⟨q1, q2⟩ <;> omega
    have oc := (hO _).mp (seatO _ qc)
    have od := (hO _).mp (seatO _ qd)
    have vc := (inV _ oc.2.1 oc.1).1
    have vd := (inV _ od.2.1 od.1).1
    have bc := t4.2 _ vc
    have bd := t4.2 _ vd
    have e3 := t4.1.inj _ _ (Or.inr vc) (Or.inr vd) (by omega)
    have nd : sF.Nodup := by rw [hsF]; exact seats_nd _ _ List.nodup_nil
    have := nd_inj nd qc qd e3
    omega
end TD
