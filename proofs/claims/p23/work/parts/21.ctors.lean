/-! CONSTRUCTORS: from an empty object to a slice of the whole memory -/
/-- n cells from number lo on, all 0 -/
def gsl (g : gT) (ad : Nat → Nat) (lo n : Nat) : va_W := (List.range n).map (fun j => (ad (lo + j), g_ce g ad (g_ln (fun _ => 500) (lo + j)) (fun _ => 0) (lo + j)))
theorem gsl_app {g : gT} {ad : Nat → Nat} {lo a b : Nat} : gsl g ad lo (a + b) = gsl g ad lo a ++ gsl g ad (lo + a) b := by
  unfold gsl
  rw [List.range_add, List.map_append, List.map_map]
  congr 1
  apply List.map_congr_left
  intro j _
  show _ = (ad (lo + a + j), g_ce g ad (g_ln (fun _ => 500) (lo + a + j)) (fun _ => 0) (lo + a + j))
  rw [Nat.add_assoc]
  rfl
def g_rows (r : Nat → Nat) (e : va_E) : va_W := (List.range 40).map (fun i => (r i, e))
theorem gsl_rows {g : gT} {ad : Nat → Nat} {b w : Nat} {r : Nat → Nat} (h : ∀ i, i < 40 → ad (b + i) = r i) (hI : ∀ i, i < 40 → g_isI (b + i) = true ∧ g_ln (fun _ => 500) (b + i) = w) : gsl g ad b 40 = g_rows r (.inl (g.1, w, .inl (fun _ => 0))) := by
  unfold gsl g_rows
  apply List.map_congr_left
  intro i hi
  have hi := List.mem_range.mp hi
  rw [h i hi, g_ce_I (hI i hi).1, (hI i hi).2]
theorem g_out_r {ad : Nat → Nat} {b : Nat} {r : Nat → Nat} (h : ∀ i, i < 40 → ad (b + i) = r i) : g_out ad b = (40, .inr (.inr (.inr (.inr (fun i => if i < 40 then some (r i) else none))))) := by
  unfold g_out
  congr 5
  funext j
  by_cases q : j < 40
  · rw [if_pos q, if_pos q, h j q]
  · rw [if_neg q, if_neg q]
theorem g_mnaRows {r : Nat → Nat} {f : Nat → va_E} {e : va_E} : va_pl ([] ++ (List.range 40).map r) (vr_up f ((List.range 40).map r) e) = g_rows r e := by
  unfold va_pl g_rows
  rw [List.nil_append, List.map_map]
  apply List.map_congr_left
  intro i hi
  show (r i, vr_up f _ e (r i)) = _
  rw [vr_up_in (List.mem_map.mpr ⟨i, hi, rfl⟩)]
/-- the words of making that are no good words -/
def gnw : List Cond := [.methodLinkNest RX5 9 yX2_init RX5, .methodLinkNest RX5 18 yX3_init RX5, .methodLinkNest RX5 25 yX0_init RX5, .methodLinkNest RX0 11 yX4_init RX5, .methodLinkNest RX0 20 yX1_init RX5]
def gNW (U : State) : Prop := (∀ w ∈ gnw, va_Nw w U) ∧ va_AOA .int U
theorem gnw_tab : ∀ w ∈ gnw, w.onTables = true := by decide +kernel
theorem gNW.same {u U : State} (h : gNW u) (hv : u.vm = U.vm) (hA : u.vm.Alike U.vm) : gNW U := ⟨fun w hw => va_Nw.same (gnw_tab w hw) hv (h.1 w hw), va_AOA.moved hA h.2⟩
theorem gNW.warm {u U : State} (h : gNW u) (hW : u.WarmedH U.vm) : gNW U := by
  refine ⟨?_, va_AOA.moved hW.alike h.2⟩
  have h1 := h.1
  unfold gnw at h1 ⊢
  simp only [List.forall_mem_cons, List.not_mem_nil, false_implies, implies_true, and_true] at h1 ⊢
  obtain ⟨h1, h2, h3, h4, h5⟩ := h1
  exact ⟨va_Nw.warmM hW h1, va_Nw.warmM hW h2, va_Nw.warmM hW h3, va_Nw.warmM hW h4, va_Nw.warmM hW h5⟩
theorem g_clsI {D : va_G} {g : gT} {cA : ClassId} {s : State} (h : va_K D vwCl (g_tys g ++ [(cA, .int)]) s) : cA = g.1 := by
  have h1 : va_RA s cA .int := (h.2 2 (cA, .int) rfl).2
  have h2 : va_RA s g.1 .int := (h.2 0 (g.1, .int) rfl).2
  exact Option.some.inj (h1.symm.trans h2)
theorem g_clsO {D : va_G} {g : gT} {cA : ClassId} {s : State} (h : va_K D vwCl (g_tys g ++ [(cA, .array .int)]) s) : cA = g.2 := by
  have h1 : va_RA s cA (.array .int) := (h.2 2 (cA, .array .int) rfl).2
  have h2 : va_RA s g.2 (.array .int) := (h.2 1 (g.2, .array .int) rfl).2
  exact Option.some.inj (h1.symm.trans h2)
def g_preC (D : va_G) (g : gT) (h0 : Nat) (e : va_E) (sz : Nat) : Array Value → State → Prop :=
  va_Pc [.ref h0] (fun U => U.heap.size = sz ∧ va_P D vwCl [(h0, e)] U.heap ∧ va_K D vwCl (g_tys g) U ∧ va_D (fun _ => True) [(h0, e)] ∧ gNW U)
def g_QC (D : va_G) (g : gT) (h0 : Nat) (e : va_E) (sz lo n : Nat) : Array Value → State → Outcome → State → Prop :=
  va_Qv (S := Nat → Nat) (fun ad => ad lo = h0) (fun ad t => va_P D vwCl (gsl g ad lo n) t.heap ∧ va_K D vwCl (g_tys g) t ∧ va_D (va_A [(h0, e)] sz) (gsl g ad lo n)) (va_A [(h0, e)] sz)
/-- a constructor's contract -/
def gCt (l : Launch) (y : MethodName) (b : ByteArray) (d : Nat) (D : va_G) (g : gT) (e : va_E) (lo n mc ms : Nat) : Prop :=
  ∀ h0 sz, Met l y (g_ws y b 1 none) (g_rmx d mc ms) (g_preC D g h0 e sz) (g_QC D g h0 e sz lo n) mc ms (va_A [(h0, e)] sz)
theorem g_blindC {D : va_G} {g : gT} {h0 : Nat} {e : va_E} {sz : Nat} : FrameBlind (g_preC D g h0 e sz) := fun a U q mk h => by
  obtain ⟨q0, q1, qP, qK, qD, qN⟩ := h
  exact ⟨q0, q1, qP, va_K.moved (u := U) (U := U.calling q mk a) (Vm.Alike.refl U.vm) qK, qD, qN.same rfl (Vm.Alike.refl U.vm)⟩

theorem g_joinC {D : va_G} {A : Nat → Prop} {w0 w1 : va_W} {q : Nat} {e : va_E} {H H1 : Heap} (hP : va_P D vwCl (w0 ++ [(q, e)]) H) (hD : va_D A (w0 ++ [(q, e)])) (hk : ∀ z : Nat, z < H.size → ¬ va_A [(q, e)] H.size z → H1[z]? = H[z]?) (hF : ∀ z, va_A [(q, e)] H.size z → A z) (hP1 : va_P D vwCl w1 H1) (hD1 : va_D (va_A [(q, e)] H.size) w1) : va_P D vwCl (w0 ++ w1) H1 ∧ va_D A (w0 ++ w1) := by
  have apart : ∀ (k : Nat) (z : Nat × va_E), w0[k]? = some z → z.1 < H.size ∧ ¬ va_A [(q, e)] H.size z.1 := by
    intro k z hz
    have hl := (List.getElem?_eq_some_iff.mp hz).1
    have h1 : (w0 ++ [(q, e)])[k]? = some z := by rw [List.getElem?_append_left hl]; exact hz
    have hlt := (hP k z h1).lt
    refine ⟨hlt, ?_⟩
    rintro (⟨k2, e2, h2⟩ | h2)
    · have hk2 : k2 = 0 := by have := (List.getElem?_eq_some_iff.mp h2).1; simp at this; exact this
      subst hk2
      have h3 : q = z.1 := by simp at h2; exact h2.1
      have h4 : (w0 ++ [(q, e)])[w0.length]? = some (q, e) := by rw [List.getElem?_append_right (Nat.le_refl _), Nat.sub_self]; rfl
      have := hD.1 k w0.length z (q, e) h1 h4 h3.symm
      omega
    · omega
  have at0 : ∀ (k : Nat) (z : Nat × va_E), w0[k]? = some z → (w0 ++ [(q, e)])[k]? = some z := fun k z hz => by rw [List.getElem?_append_left (List.getElem?_eq_some_iff.mp hz).1]; exact hz
  have split : ∀ (k : Nat) (z : Nat × va_E), (w0 ++ w1)[k]? = some z → w0[k]? = some z ∨ (w0.length ≤ k ∧ w1[k - w0.length]? = some z) := fun k z hz => by
    by_cases h : k < w0.length
    · rw [List.getElem?_append_left h] at hz; exact Or.inl hz
    · rw [List.getElem?_append_right (by omega)] at hz; exact Or.inr ⟨by omega, hz⟩
  refine ⟨fun k z hz => ?_, fun i j z1 z2 h1 h2 he => ?_, fun k z hz => ?_⟩
  · rcases split k z hz with h | ⟨-, h⟩
    · exact (hP k z (at0 k z h)).kept (hk z.1 (apart k z h).1 (apart k z h).2)
    · exact hP1 _ z h
  · rcases split i z1 h1 with a | ⟨a0, a⟩ <;> rcases split j z2 h2 with b | ⟨b0, b⟩
    · exact hD.1 i j z1 z2 (at0 i z1 a) (at0 j z2 b) he
    · exact absurd (hD1.2 _ z2 b) (by rw [← he]; exact (apart i z1 a).2)
    · exact absurd (hD1.2 _ z1 a) (by rw [he]; exact (apart j z2 b).2)
    · have := hD1.1 _ _ z1 z2 a b he; omega
  · rcases split k z hz with h | ⟨-, h⟩
    · exact hD.2 k z (at0 k z h)
    · exact hF _ (hD1.2 _ z h)
theorem g_out_sl {ad ad' : Nat → Nat} {b lo hi : Nat} (h : ∀ j, lo ≤ j → j < hi → ad j = ad' j) (h1 : lo ≤ b) (h2 : b + 40 ≤ hi) : g_out ad b = g_out ad' b := by
  unfold g_out
  congr 5
  funext j
  by_cases q : j < 40
  · rw [if_pos q, if_pos q, h _ (by omega) (by omega)]
  · rw [if_neg q, if_neg q]
theorem g_ce_sl {g : gT} {ad ad' : Nat → Nat} {lo hi x : Nat} {f : Nat → Int32} {i : Nat} (hs : lo = 1 ∧ hi = 43 ∨ lo = 43 ∧ hi = 128 ∨ lo = 129 ∧ hi = 138 ∨ lo = 138 ∧ hi = 182 ∨ lo = 128 ∧ hi = 183) (h : ∀ j, lo ≤ j → j < hi → ad j = ad' j) (h1 : lo ≤ i) (h2 : i < hi) : g_ce g ad x f i = g_ce g ad' x f i := by
  unfold g_ce
  by_cases c129 : i = 129
  · rw [if_pos c129, if_pos c129, h 130 (by omega) (by omega), h 131 (by omega) (by omega), h 132 (by omega) (by omega), h 133 (by omega) (by omega), h 134 (by omega) (by omega), h 135 (by omega) (by omega), h 136 (by omega) (by omega), h 137 (by omega) (by omega)]
  rw [if_neg c129, if_neg c129]
  by_cases c0 : i = 0
  · first | omega | rw [if_pos c0, if_pos c0]
  rw [if_neg c0, if_neg c0]
  by_cases c1 : i = 1
  · rw [if_pos c1, if_pos c1, h 2 (by omega) (by omega)]
  rw [if_neg c1, if_neg c1]
  by_cases c43 : i = 43
  · rw [if_pos c43, if_pos c43, h 44 (by omega) (by omega), h 85 (by omega) (by omega), h 126 (by omega) (by omega), h 127 (by omega) (by omega)]
  rw [if_neg c43, if_neg c43]
  by_cases c128 : i = 128
  · rw [if_pos c128, if_pos c128, h 129 (by omega) (by omega), h 138 (by omega) (by omega), h 182 (by omega) (by omega)]
  rw [if_neg c128, if_neg c128]
  by_cases c138 : i = 138
  · rw [if_pos c138, if_pos c138, h 139 (by omega) (by omega), h 140 (by omega) (by omega), h 181 (by omega) (by omega)]
  rw [if_neg c138, if_neg c138]
  by_cases c2 : i = 2
  · rw [if_pos c2, if_pos c2, g_out_sl (b := 3) h (by omega) (by omega)]
  rw [if_neg c2, if_neg c2]
  by_cases c44 : i = 44
  · rw [if_pos c44, if_pos c44, g_out_sl (b := 45) h (by omega) (by omega)]
  rw [if_neg c44, if_neg c44]
  by_cases c85 : i = 85
  · rw [if_pos c85, if_pos c85, g_out_sl (b := 86) h (by omega) (by omega)]
  rw [if_neg c85, if_neg c85]
  by_cases c140 : i = 140
  · rw [if_pos c140, if_pos c140, g_out_sl (b := 141) h (by omega) (by omega)]
  rw [if_neg c140, if_neg c140]
  rw [if_neg (by omega), if_neg (by omega)]
theorem gsl_cg {g : gT} {ad ad' : Nat → Nat} {lo n : Nat} {hi : Nat} (hs : lo = 1 ∧ hi = 43 ∨ lo = 43 ∧ hi = 128 ∨ lo = 129 ∧ hi = 138 ∨ lo = 138 ∧ hi = 182 ∨ lo = 128 ∧ hi = 183) (hh : lo + n = hi) (h : ∀ i, lo ≤ i → i < hi → ad i = ad' i) : gsl g ad lo n = gsl g ad' lo n := by
  unfold gsl
  apply List.map_congr_left
  intro j hj
  have hj := List.mem_range.mp hj
  rw [h (lo + j) (by omega) (by omega), g_ce_sl hs h (by omega) (by omega)]

theorem qo_0 : Cond.methodLink RX0 3 objectInit ∈ gtb := g_tb (List.mem_of_getElem? (i := 95) (by decide +kernel)) (by decide +kernel)
theorem qo_1 : Cond.methodLink RX1 3 objectInit ∈ gtb := g_tb (List.mem_of_getElem? (i := 141) (by decide +kernel)) (by decide +kernel)
theorem qo_2 : Cond.methodLink RX2 3 objectInit ∈ gtb := g_tb (List.mem_of_getElem? (i := 59) (by decide +kernel)) (by decide +kernel)
theorem qo_3 : Cond.methodLink RX3 3 objectInit ∈ gtb := g_tb (List.mem_of_getElem? (i := 75) (by decide +kernel)) (by decide +kernel)
theorem qo_4 : Cond.methodLink RX4 5 objectInit ∈ gtb := g_tb (List.mem_of_getElem? (i := 101) (by decide +kernel)) (by decide +kernel)
theorem qo_5 : Cond.methodLink RX5 1 objectInit ∈ gtb := g_tb (List.mem_of_getElem? (i := 51) (by decide +kernel)) (by decide +kernel)
theorem qo_inst : Cond.instanceMethod objectInit ∈ gtb := g_tb (List.mem_of_getElem? (i := 52) (by decide +kernel)) (by decide +kernel)
theorem qo_code : Cond.code objectInit ⟨#[0xb1]⟩ 1 none ∈ gtb := g_tb (List.mem_of_getElem? (i := 53) (by decide +kernel)) (by decide +kernel)
theorem qi_code_0 : Cond.code yX0_init cX0_init 1 none ∈ gtb := g_tb (List.mem_of_getElem? (i := 94) (by decide +kernel)) (by decide +kernel)
theorem qi_im_0 : Cond.instanceMethod yX0_init ∈ gtb := g_tb (List.mem_of_getElem? (i := 93) (by decide +kernel)) (by decide +kernel)
theorem qi_ini_0 : Cond.initialized RX0 ∈ gtb := g_tb (List.mem_of_getElem? (i := 36) (by decide +kernel)) (by decide +kernel)
theorem qi_mk_0 : Cond.instantiable RX0 5 ∈ gtb := g_tb (List.mem_of_getElem? (i := 91) (by decide +kernel)) (by decide +kernel)
theorem qi_cl_0 : Cond.classLink RX5 23 RX0 ∈ gtb := g_tb (List.mem_of_getElem? (i := 90) (by decide +kernel)) (by decide +kernel)
theorem qi_code_1 : Cond.code yX1_init cX1_init 1 none ∈ gtb := g_tb (List.mem_of_getElem? (i := 140) (by decide +kernel)) (by decide +kernel)
theorem qi_im_1 : Cond.instanceMethod yX1_init ∈ gtb := g_tb (List.mem_of_getElem? (i := 139) (by decide +kernel)) (by decide +kernel)
theorem qi_ini_1 : Cond.initialized RX1 ∈ gtb := g_tb (List.mem_of_getElem? (i := 38) (by decide +kernel)) (by decide +kernel)
theorem qi_mk_1 : Cond.instantiable RX1 4 ∈ gtb := g_tb (List.mem_of_getElem? (i := 137) (by decide +kernel)) (by decide +kernel)
theorem qi_cl_1 : Cond.classLink RX0 18 RX1 ∈ gtb := g_tb (List.mem_of_getElem? (i := 136) (by decide +kernel)) (by decide +kernel)
theorem qi_code_2 : Cond.code yX2_init cX2_init 1 none ∈ gtb := g_tb (List.mem_of_getElem? (i := 58) (by decide +kernel)) (by decide +kernel)
theorem qi_im_2 : Cond.instanceMethod yX2_init ∈ gtb := g_tb (List.mem_of_getElem? (i := 57) (by decide +kernel)) (by decide +kernel)
theorem qi_ini_2 : Cond.initialized RX2 ∈ gtb := g_tb (List.mem_of_getElem? (i := 34) (by decide +kernel)) (by decide +kernel)
theorem qi_mk_2 : Cond.instantiable RX2 2 ∈ gtb := g_tb (List.mem_of_getElem? (i := 55) (by decide +kernel)) (by decide +kernel)
theorem qi_cl_2 : Cond.classLink RX5 7 RX2 ∈ gtb := g_tb (List.mem_of_getElem? (i := 54) (by decide +kernel)) (by decide +kernel)
theorem qi_code_3 : Cond.code yX3_init cX3_init 1 none ∈ gtb := g_tb (List.mem_of_getElem? (i := 74) (by decide +kernel)) (by decide +kernel)
theorem qi_im_3 : Cond.instanceMethod yX3_init ∈ gtb := g_tb (List.mem_of_getElem? (i := 73) (by decide +kernel)) (by decide +kernel)
theorem qi_ini_3 : Cond.initialized RX3 ∈ gtb := g_tb (List.mem_of_getElem? (i := 35) (by decide +kernel)) (by decide +kernel)
theorem qi_mk_3 : Cond.instantiable RX3 4 ∈ gtb := g_tb (List.mem_of_getElem? (i := 71) (by decide +kernel)) (by decide +kernel)
theorem qi_cl_3 : Cond.classLink RX5 16 RX3 ∈ gtb := g_tb (List.mem_of_getElem? (i := 70) (by decide +kernel)) (by decide +kernel)
theorem qi_code_4 : Cond.code yX4_init cX4_init 1 none ∈ gtb := g_tb (List.mem_of_getElem? (i := 100) (by decide +kernel)) (by decide +kernel)
theorem qi_im_4 : Cond.instanceMethod yX4_init ∈ gtb := g_tb (List.mem_of_getElem? (i := 99) (by decide +kernel)) (by decide +kernel)
theorem qi_ini_4 : Cond.initialized RX4 ∈ gtb := g_tb (List.mem_of_getElem? (i := 37) (by decide +kernel)) (by decide +kernel)
theorem qi_mk_4 : Cond.instantiable RX4 11 ∈ gtb := g_tb (List.mem_of_getElem? (i := 97) (by decide +kernel)) (by decide +kernel)
theorem qi_cl_4 : Cond.classLink RX0 9 RX4 ∈ gtb := g_tb (List.mem_of_getElem? (i := 96) (by decide +kernel)) (by decide +kernel)
theorem qi_code_5 : Cond.code yX5_init cX5_init 1 none ∈ gtb := g_tb (List.mem_of_getElem? (i := 50) (by decide +kernel)) (by decide +kernel)
theorem qi_im_5 : Cond.instanceMethod yX5_init ∈ gtb := g_tb (List.mem_of_getElem? (i := 49) (by decide +kernel)) (by decide +kernel)
theorem qi_ini_5 : Cond.initialized RX5 ∈ gtb := g_tb (List.mem_of_getElem? (i := 33) (by decide +kernel)) (by decide +kernel)
theorem qi_mk_5 : Cond.instantiable RX5 3 ∈ gtb := g_tb (List.mem_of_getElem? (i := 47) (by decide +kernel)) (by decide +kernel)
theorem qi_cl_5 : Cond.classLink RL 45 RX5 ∈ gtb := g_tb (List.mem_of_getElem? (i := 46) (by decide +kernel)) (by decide +kernel)
theorem qp_X0_12 : Cond.fieldLink RX0 12 (TX0 0).1 (TX0 0).2.1 (TX0 0).2.2.1 ∈ gtb := g_tb (List.mem_of_getElem? (i := 156) (by decide +kernel)) (by decide +kernel)
theorem qp_X0_21 : Cond.fieldLink RX0 21 (TX0 1).1 (TX0 1).2.1 (TX0 1).2.2.1 ∈ gtb := g_tb (List.mem_of_getElem? (i := 157) (by decide +kernel)) (by decide +kernel)
theorem qp_X0_25 : Cond.fieldLink RX0 25 (TX0 2).1 (TX0 2).2.1 (TX0 2).2.2.1 ∈ gtb := g_tb (List.mem_of_getElem? (i := 158) (by decide +kernel)) (by decide +kernel)
theorem qp_X1_9 : Cond.fieldLink RX1 9 (TX1 0).1 (TX1 0).2.1 (TX1 0).2.2.1 ∈ gtb := g_tb (List.mem_of_getElem? (i := 143) (by decide +kernel)) (by decide +kernel)
theorem qm2_X1_15 : Cond.classLink RX1 15 ("[" ++ (FieldType.array .int).toString) ∈ gtb := g_tb (List.mem_of_getElem? (i := 142) (by decide +kernel)) (by decide +kernel)
theorem qp_X1_17 : Cond.fieldLink RX1 17 (TX1 1).1 (TX1 1).2.1 (TX1 1).2.2.1 ∈ gtb := g_tb (List.mem_of_getElem? (i := 144) (by decide +kernel)) (by decide +kernel)
theorem qp_X1_20 : Cond.fieldLink RX1 20 (TX1 2).1 (TX1 2).2.1 (TX1 2).2.2.1 ∈ gtb := g_tb (List.mem_of_getElem? (i := 145) (by decide +kernel)) (by decide +kernel)
theorem qm2_X2_9 : Cond.classLink RX2 9 ("[" ++ (FieldType.array .int).toString) ∈ gtb := g_tb (List.mem_of_getElem? (i := 60) (by decide +kernel)) (by decide +kernel)
theorem qp_X2_11 : Cond.fieldLink RX2 11 (TX2 0).1 (TX2 0).2.1 (TX2 0).2.2.1 ∈ gtb := g_tb (List.mem_of_getElem? (i := 62) (by decide +kernel)) (by decide +kernel)
theorem qm2_X3_9 : Cond.classLink RX3 9 ("[" ++ (FieldType.array .int).toString) ∈ gtb := g_tb (List.mem_of_getElem? (i := 76) (by decide +kernel)) (by decide +kernel)
theorem qp_X3_11 : Cond.fieldLink RX3 11 (TX3 0).1 (TX3 0).2.1 (TX3 0).2.2.1 ∈ gtb := g_tb (List.mem_of_getElem? (i := 77) (by decide +kernel)) (by decide +kernel)
theorem qp_X3_16 : Cond.fieldLink RX3 16 (TX3 1).1 (TX3 1).2.1 (TX3 1).2.2.1 ∈ gtb := g_tb (List.mem_of_getElem? (i := 78) (by decide +kernel)) (by decide +kernel)
theorem qp_X3_19 : Cond.fieldLink RX3 19 (TX3 2).1 (TX3 2).2.1 (TX3 2).2.2.1 ∈ gtb := g_tb (List.mem_of_getElem? (i := 79) (by decide +kernel)) (by decide +kernel)
theorem qp_X3_23 : Cond.fieldLink RX3 23 (TX3 3).1 (TX3 3).2.1 (TX3 3).2.2.1 ∈ gtb := g_tb (List.mem_of_getElem? (i := 80) (by decide +kernel)) (by decide +kernel)
theorem qp_X4_11 : Cond.fieldLink RX4 11 (TX4 0).1 (TX4 0).2.1 (TX4 0).2.2.1 ∈ gtb := g_tb (List.mem_of_getElem? (i := 102) (by decide +kernel)) (by decide +kernel)
theorem qp_X4_15 : Cond.fieldLink RX4 15 (TX4 1).1 (TX4 1).2.1 (TX4 1).2.2.1 ∈ gtb := g_tb (List.mem_of_getElem? (i := 103) (by decide +kernel)) (by decide +kernel)
theorem qp_X4_18 : Cond.fieldLink RX4 18 (TX4 2).1 (TX4 2).2.1 (TX4 2).2.2.1 ∈ gtb := g_tb (List.mem_of_getElem? (i := 104) (by decide +kernel)) (by decide +kernel)
theorem qp_X4_21 : Cond.fieldLink RX4 21 (TX4 3).1 (TX4 3).2.1 (TX4 3).2.2.1 ∈ gtb := g_tb (List.mem_of_getElem? (i := 105) (by decide +kernel)) (by decide +kernel)
theorem qp_X4_24 : Cond.fieldLink RX4 24 (TX4 4).1 (TX4 4).2.1 (TX4 4).2.2.1 ∈ gtb := g_tb (List.mem_of_getElem? (i := 106) (by decide +kernel)) (by decide +kernel)
theorem qp_X4_27 : Cond.fieldLink RX4 27 (TX4 5).1 (TX4 5).2.1 (TX4 5).2.2.1 ∈ gtb := g_tb (List.mem_of_getElem? (i := 107) (by decide +kernel)) (by decide +kernel)
theorem qp_X4_30 : Cond.fieldLink RX4 30 (TX4 6).1 (TX4 6).2.1 (TX4 6).2.2.1 ∈ gtb := g_tb (List.mem_of_getElem? (i := 108) (by decide +kernel)) (by decide +kernel)
theorem qp_X4_33 : Cond.fieldLink RX4 33 (TX4 7).1 (TX4 7).2.1 (TX4 7).2.2.1 ∈ gtb := g_tb (List.mem_of_getElem? (i := 109) (by decide +kernel)) (by decide +kernel)
theorem qp_X5_10 : Cond.fieldLink RX5 10 (TX5 0).1 (TX5 0).2.1 (TX5 0).2.2.1 ∈ gtb := g_tb (List.mem_of_getElem? (i := 172) (by decide +kernel)) (by decide +kernel)
theorem qp_X5_19 : Cond.fieldLink RX5 19 (TX5 1).1 (TX5 1).2.1 (TX5 1).2.2.1 ∈ gtb := g_tb (List.mem_of_getElem? (i := 173) (by decide +kernel)) (by decide +kernel)
theorem qp_X5_26 : Cond.fieldLink RX5 26 (TX5 2).1 (TX5 2).2.1 (TX5 2).2.2.1 ∈ gtb := g_tb (List.mem_of_getElem? (i := 174) (by decide +kernel)) (by decide +kernel)
theorem dX0_init_0 : decode cX0_init 0 = .ok (.aload_n 0, 1) := by decide +kernel
theorem dX0_init_1 : decode cX0_init 1 = .ok (.invokespecial 3, 3) := by decide +kernel
theorem dX0_init_4 : decode cX0_init 4 = .ok (.aload_n 0, 1) := by decide +kernel
theorem dX0_init_5 : decode cX0_init 5 = .ok (.new 9, 3) := by decide +kernel
theorem dX0_init_8 : decode cX0_init 8 = .ok (.dup, 1) := by decide +kernel
theorem dX0_init_9 : decode cX0_init 9 = .ok (.invokespecial 11, 3) := by decide +kernel
theorem dX0_init_12 : decode cX0_init 12 = .ok (.putfield 12, 3) := by decide +kernel
theorem dX0_init_15 : decode cX0_init 15 = .ok (.aload_n 0, 1) := by decide +kernel
theorem dX0_init_16 : decode cX0_init 16 = .ok (.new 18, 3) := by decide +kernel
theorem dX0_init_19 : decode cX0_init 19 = .ok (.dup, 1) := by decide +kernel
theorem dX0_init_20 : decode cX0_init 20 = .ok (.invokespecial 20, 3) := by decide +kernel
theorem dX0_init_23 : decode cX0_init 23 = .ok (.putfield 21, 3) := by decide +kernel
theorem dX0_init_26 : decode cX0_init 26 = .ok (.aload_n 0, 1) := by decide +kernel
theorem dX0_init_27 : decode cX0_init 27 = .ok (.bipush 60, 2) := by decide +kernel
theorem dX0_init_29 : decode cX0_init 29 = .ok (.newarray .int, 2) := by decide +kernel
theorem dX0_init_31 : decode cX0_init 31 = .ok (.putfield 25, 3) := by decide +kernel
theorem dX0_init_34 : decode cX0_init 34 = .ok (.return_, 1) := by decide +kernel
theorem dX1_init_0 : decode cX1_init 0 = .ok (.aload_n 0, 1) := by decide +kernel
theorem dX1_init_1 : decode cX1_init 1 = .ok (.invokespecial 3, 3) := by decide +kernel
theorem dX1_init_4 : decode cX1_init 4 = .ok (.aload_n 0, 1) := by decide +kernel
theorem dX1_init_5 : decode cX1_init 5 = .ok (.bipush 40, 2) := by decide +kernel
theorem dX1_init_7 : decode cX1_init 7 = .ok (.newarray .int, 2) := by decide +kernel
theorem dX1_init_9 : decode cX1_init 9 = .ok (.putfield 9, 3) := by decide +kernel
theorem dX1_init_12 : decode cX1_init 12 = .ok (.aload_n 0, 1) := by decide +kernel
theorem dX1_init_13 : decode cX1_init 13 = .ok (.bipush 40, 2) := by decide +kernel
theorem dX1_init_15 : decode cX1_init 15 = .ok (.bipush 60, 2) := by decide +kernel
theorem dX1_init_17 : decode cX1_init 17 = .ok (.multianewarray 15 2, 4) := by decide +kernel
theorem dX1_init_21 : decode cX1_init 21 = .ok (.putfield 17, 3) := by decide +kernel
theorem dX1_init_24 : decode cX1_init 24 = .ok (.aload_n 0, 1) := by decide +kernel
theorem dX1_init_25 : decode cX1_init 25 = .ok (.bipush 40, 2) := by decide +kernel
theorem dX1_init_27 : decode cX1_init 27 = .ok (.newarray .int, 2) := by decide +kernel
theorem dX1_init_29 : decode cX1_init 29 = .ok (.putfield 20, 3) := by decide +kernel
theorem dX1_init_32 : decode cX1_init 32 = .ok (.return_, 1) := by decide +kernel
theorem dX2_init_0 : decode cX2_init 0 = .ok (.aload_n 0, 1) := by decide +kernel
theorem dX2_init_1 : decode cX2_init 1 = .ok (.invokespecial 3, 3) := by decide +kernel
theorem dX2_init_4 : decode cX2_init 4 = .ok (.aload_n 0, 1) := by decide +kernel
theorem dX2_init_5 : decode cX2_init 5 = .ok (.bipush 40, 2) := by decide +kernel
theorem dX2_init_7 : decode cX2_init 7 = .ok (.bipush 7, 2) := by decide +kernel
theorem dX2_init_9 : decode cX2_init 9 = .ok (.multianewarray 9 2, 4) := by decide +kernel
theorem dX2_init_13 : decode cX2_init 13 = .ok (.putfield 11, 3) := by decide +kernel
theorem dX2_init_16 : decode cX2_init 16 = .ok (.return_, 1) := by decide +kernel
theorem dX3_init_0 : decode cX3_init 0 = .ok (.aload_n 0, 1) := by decide +kernel
theorem dX3_init_1 : decode cX3_init 1 = .ok (.invokespecial 3, 3) := by decide +kernel
theorem dX3_init_4 : decode cX3_init 4 = .ok (.aload_n 0, 1) := by decide +kernel
theorem dX3_init_5 : decode cX3_init 5 = .ok (.bipush 40, 2) := by decide +kernel
theorem dX3_init_7 : decode cX3_init 7 = .ok (.bipush 60, 2) := by decide +kernel
theorem dX3_init_9 : decode cX3_init 9 = .ok (.multianewarray 9 2, 4) := by decide +kernel
theorem dX3_init_13 : decode cX3_init 13 = .ok (.putfield 11, 3) := by decide +kernel
theorem dX3_init_16 : decode cX3_init 16 = .ok (.aload_n 0, 1) := by decide +kernel
theorem dX3_init_17 : decode cX3_init 17 = .ok (.bipush 40, 2) := by decide +kernel
theorem dX3_init_19 : decode cX3_init 19 = .ok (.iconst 5, 1) := by decide +kernel
theorem dX3_init_20 : decode cX3_init 20 = .ok (.multianewarray 9 2, 4) := by decide +kernel
theorem dX3_init_24 : decode cX3_init 24 = .ok (.putfield 16, 3) := by decide +kernel
theorem dX3_init_27 : decode cX3_init 27 = .ok (.aload_n 0, 1) := by decide +kernel
theorem dX3_init_28 : decode cX3_init 28 = .ok (.bipush 60, 2) := by decide +kernel
theorem dX3_init_30 : decode cX3_init 30 = .ok (.newarray .int, 2) := by decide +kernel
theorem dX3_init_32 : decode cX3_init 32 = .ok (.putfield 19, 3) := by decide +kernel
theorem dX3_init_35 : decode cX3_init 35 = .ok (.aload_n 0, 1) := by decide +kernel
theorem dX3_init_36 : decode cX3_init 36 = .ok (.bipush 60, 2) := by decide +kernel
theorem dX3_init_38 : decode cX3_init 38 = .ok (.newarray .int, 2) := by decide +kernel
theorem dX3_init_40 : decode cX3_init 40 = .ok (.putfield 23, 3) := by decide +kernel
theorem dX3_init_43 : decode cX3_init 43 = .ok (.return_, 1) := by decide +kernel
theorem dX4_init_0 : decode cX4_init 0 = .ok (.aload_n 0, 1) := by decide +kernel
theorem dX4_init_1 : decode cX4_init 1 = .ok (.invokespecial 5, 3) := by decide +kernel
theorem dX4_init_4 : decode cX4_init 4 = .ok (.aload_n 0, 1) := by decide +kernel
theorem dX4_init_5 : decode cX4_init 5 = .ok (.sipush 2600, 3) := by decide +kernel
theorem dX4_init_8 : decode cX4_init 8 = .ok (.newarray .int, 2) := by decide +kernel
theorem dX4_init_10 : decode cX4_init 10 = .ok (.putfield 11, 3) := by decide +kernel
theorem dX4_init_13 : decode cX4_init 13 = .ok (.aload_n 0, 1) := by decide +kernel
theorem dX4_init_14 : decode cX4_init 14 = .ok (.sipush 2600, 3) := by decide +kernel
theorem dX4_init_17 : decode cX4_init 17 = .ok (.newarray .int, 2) := by decide +kernel
theorem dX4_init_19 : decode cX4_init 19 = .ok (.putfield 15, 3) := by decide +kernel
theorem dX4_init_22 : decode cX4_init 22 = .ok (.aload_n 0, 1) := by decide +kernel
theorem dX4_init_23 : decode cX4_init 23 = .ok (.sipush 2600, 3) := by decide +kernel
theorem dX4_init_26 : decode cX4_init 26 = .ok (.newarray .int, 2) := by decide +kernel
theorem dX4_init_28 : decode cX4_init 28 = .ok (.putfield 18, 3) := by decide +kernel
theorem dX4_init_31 : decode cX4_init 31 = .ok (.aload_n 0, 1) := by decide +kernel
theorem dX4_init_32 : decode cX4_init 32 = .ok (.sipush 2600, 3) := by decide +kernel
theorem dX4_init_35 : decode cX4_init 35 = .ok (.newarray .int, 2) := by decide +kernel
theorem dX4_init_37 : decode cX4_init 37 = .ok (.putfield 21, 3) := by decide +kernel
theorem dX4_init_40 : decode cX4_init 40 = .ok (.aload_n 0, 1) := by decide +kernel
theorem dX4_init_41 : decode cX4_init 41 = .ok (.sipush 5208, 3) := by decide +kernel
theorem dX4_init_44 : decode cX4_init 44 = .ok (.newarray .int, 2) := by decide +kernel
theorem dX4_init_46 : decode cX4_init 46 = .ok (.putfield 24, 3) := by decide +kernel
theorem dX4_init_49 : decode cX4_init 49 = .ok (.aload_n 0, 1) := by decide +kernel
theorem dX4_init_50 : decode cX4_init 50 = .ok (.sipush 5208, 3) := by decide +kernel
theorem dX4_init_53 : decode cX4_init 53 = .ok (.newarray .int, 2) := by decide +kernel
theorem dX4_init_55 : decode cX4_init 55 = .ok (.putfield 27, 3) := by decide +kernel
theorem dX4_init_58 : decode cX4_init 58 = .ok (.aload_n 0, 1) := by decide +kernel
theorem dX4_init_59 : decode cX4_init 59 = .ok (.sipush 5208, 3) := by decide +kernel
theorem dX4_init_62 : decode cX4_init 62 = .ok (.newarray .int, 2) := by decide +kernel
theorem dX4_init_64 : decode cX4_init 64 = .ok (.putfield 30, 3) := by decide +kernel
theorem dX4_init_67 : decode cX4_init 67 = .ok (.aload_n 0, 1) := by decide +kernel
theorem dX4_init_68 : decode cX4_init 68 = .ok (.bipush 60, 2) := by decide +kernel
theorem dX4_init_70 : decode cX4_init 70 = .ok (.newarray .int, 2) := by decide +kernel
theorem dX4_init_72 : decode cX4_init 72 = .ok (.putfield 33, 3) := by decide +kernel
theorem dX4_init_75 : decode cX4_init 75 = .ok (.return_, 1) := by decide +kernel
theorem dX5_init_0 : decode cX5_init 0 = .ok (.aload_n 0, 1) := by decide +kernel
theorem dX5_init_1 : decode cX5_init 1 = .ok (.invokespecial 1, 3) := by decide +kernel
theorem dX5_init_4 : decode cX5_init 4 = .ok (.aload_n 0, 1) := by decide +kernel
theorem dX5_init_5 : decode cX5_init 5 = .ok (.new 7, 3) := by decide +kernel
theorem dX5_init_8 : decode cX5_init 8 = .ok (.dup, 1) := by decide +kernel
theorem dX5_init_9 : decode cX5_init 9 = .ok (.invokespecial 9, 3) := by decide +kernel
theorem dX5_init_12 : decode cX5_init 12 = .ok (.putfield 10, 3) := by decide +kernel
theorem dX5_init_15 : decode cX5_init 15 = .ok (.aload_n 0, 1) := by decide +kernel
theorem dX5_init_16 : decode cX5_init 16 = .ok (.new 16, 3) := by decide +kernel
theorem dX5_init_19 : decode cX5_init 19 = .ok (.dup, 1) := by decide +kernel
theorem dX5_init_20 : decode cX5_init 20 = .ok (.invokespecial 18, 3) := by decide +kernel
theorem dX5_init_23 : decode cX5_init 23 = .ok (.putfield 19, 3) := by decide +kernel
theorem dX5_init_26 : decode cX5_init 26 = .ok (.aload_n 0, 1) := by decide +kernel
theorem dX5_init_27 : decode cX5_init 27 = .ok (.new 23, 3) := by decide +kernel
theorem dX5_init_30 : decode cX5_init 30 = .ok (.dup, 1) := by decide +kernel
theorem dX5_init_31 : decode cX5_init 31 = .ok (.invokespecial 25, 3) := by decide +kernel
theorem dX5_init_34 : decode cX5_init 34 = .ok (.putfield 26, 3) := by decide +kernel
theorem dX5_init_37 : decode cX5_init 37 = .ok (.return_, 1) := by decide +kernel
set_option maxHeartbeats 4000000 in
set_option maxRecDepth 100000 in
theorem kX2_init {l : Launch} {D : va_G} {g : gT} : gCt l yX2_init cX2_init 1 D g (.inr (2, [.null, .int 0])) 1 42 41 320 := by
  intro h0 sz
  refine Met.ofW (cc := cX2_init) (maxL := 1) (ret := none) (by decide) rfl ?_
  intro p e s m args below meth c s₁ B hml hv
  obtain ⟨rfl, hsz, hP, hK, hD0, hNW⟩ := hv
  have hx := B.exec
  have hb := B.bytes
  have hr := B.returns
  have hts : ∀ w ∈ gtb, w.before #[Value.ref h0] s = true := fun w hw => atoms_spec (ws := g_ws yX2_init cX2_init 1 none) B.pre w (List.mem_cons_of_mem _ hw)
  have hown : s.vm.findClass RX2 = some m.cls := findClass_of_methodNamed B.named
  have hlocks := B.notSynchronized
  have hin : meth.name = "<init>" := (name_of_methodNamed B.named B.method).1
  subst hsz
  have hD := hD0.self (sz := s.heap.size)
  generalize hAe : va_A [(h0, (.inr (2, [.null, .int 0]) : va_E))] s.heap.size = A at hD ⊢
  have hA : ∀ q : Nat, s.heap.size ≤ q → A q := fun q h => by rw [← hAe]; exact Or.inr h
  have hS : va_S A s.heap s.heap [] := va_S.rf
  have hl := lv_entry ([.ref h0]) (n := 1) (Nat.le_of_ble_eq_true rfl)
  rw [lg_entry_eq]
  generalize (lg_sl ([.ref h0]) ++ List.replicate (1 - (lg_sl ([.ref h0])).length) Slot.unset).toArray = ls at hl ⊢
  have hl : lv_has ls 1 [(0, .ref h0)] := hl
  refine lv_aload_n hx hb dX2_init_0 rfl (lv_at hl 0 rfl) ?_
  refine W.objInit hx hb hown (hts _ qo_2) (hts _ qo_inst) (hts _ qo_code) rfl (by rw [hml]; exact hl.1) rfl dX2_init_1 (Nat.le_of_ble_eq_true rfl) (Nat.le_of_ble_eq_true rfl) ?_
  refine W.eq (g2 := F0 m 4 ls []) rfl ?_
  refine lv_aload_n hx hb dX2_init_4 rfl (lv_at hl 0 rfl) ?_
  refine lv_bipush (v := 40) hx hb dX2_init_5 (by decide) ?_
  refine lv_bipush (v := 7) hx hb dX2_init_7 (by decide) ?_
  refine va_mna (X := [(h0, .inr (2, [.null, .int 0]))]) (L := []) (f := fun _ => .inl (g.1, 0, .inl (fun _ => 0))) (ty := .int) (cy := g.1) (N' := 40) (K' := 7) (z := (7, .inl (fun _ => 0))) hx hb hown (hts _ qm2_X2_9) hNW.2 (hts _ qa_int) (hK.2 0 _ rfl).2 hK (by rw [show va_pl [] (fun _ => (.inl (g.1, 0, .inl (fun _ => 0)) : va_E)) = [] from rfl, List.append_nil]; exact hP) (by rw [show va_pl [] (fun _ => (.inl (g.1, 0, .inl (fun _ => 0)) : va_E)) = [] from rfl, List.append_nil]; exact hD) hS hA (by decide) (by decide) (by decide) (by decide) (Nat.le_of_ble_eq_true rfl) (Nat.le_of_ble_eq_true rfl) (Nat.le_of_ble_eq_true rfl) rfl rfl (Nat.le_of_ble_eq_true rfl) (Nat.le_of_ble_eq_true rfl) (fun c => rfl) dX2_init_9 (fun q1 r1 cA H _ _ hK1 hP hD hS => ?_)
  obtain rfl : cA = g.2 := g_clsO hK1
  rw [g_mnaRows] at hP hD
  have hP : va_P D vwCl (([(h0, .inr (2, [.null, .int 0])), (q1, .inl (g.2, 40, .inr (.inr (.inr (.inr (fun i => if i < 40 then some (r1 i) else none))))))]) ++ g_rows r1 (.inl (g.1, 7, .inl (fun _ => 0)))) H := hP
  have hD : va_D A (([(h0, .inr (2, [.null, .int 0])), (q1, .inl (g.2, 40, .inr (.inr (.inr (.inr (fun i => if i < 40 then some (r1 i) else none))))))]) ++ g_rows r1 (.inl (g.1, 7, .inl (fun _ => 0)))) := hD
  refine va_putF (D := D) (ci := 2) (v := .ref q1) (ty := .array (.array .int)) (C := RX2) (T := TX2) (N := 2) hx hb hts gu_2 tyX2 tyX2_ok nmX2 hown hK hP hD hS 0 rfl rfl 0 (by decide) (hts _ qp_X2_11) (fun _ h9 => h9) rfl hin rfl (by decide +kernel) rfl rfl (Nat.le_of_ble_eq_true rfl) dX2_init_13 (fun H locs hP hD hS => ?_)
  have hP : va_P D vwCl (([(h0, .inr (2, [.ref q1, .int 0])), (q1, .inl (g.2, 40, .inr (.inr (.inr (.inr (fun i => if i < 40 then some (r1 i) else none))))))]) ++ g_rows r1 (.inl (g.1, 7, .inl (fun _ => 0)))) H := hP
  have hD : va_D A (([(h0, .inr (2, [.ref q1, .int 0])), (q1, .inl (g.2, 40, .inr (.inr (.inr (.inr (fun i => if i < 40 then some (r1 i) else none))))))]) ++ g_rows r1 (.inl (g.1, 7, .inl (fun _ => 0)))) := hD
  have hfin : ([(h0, .inr (2, [.ref q1, .int 0])), (q1, .inl (g.2, 40, .inr (.inr (.inr (.inr (fun i => if i < 40 then some (r1 i) else none))))))]) ++ g_rows r1 (.inl (g.1, 7, .inl (fun _ => 0))) = gsl g (fun i => if i = 1 then h0 else if i = 2 then q1 else if i < 43 then r1 (i - 3) else 0) 1 42 := by
    generalize had : (fun i : Nat => if i = 1 then h0 else if i = 2 then q1 else if i < 43 then r1 (i - 3) else 0) = ad
    have f0 : ad 1 = h0 := by rw [← had]; rfl
    have f1 : ad 2 = q1 := by rw [← had]; rfl
    have f2 : ∀ i, i < 40 → ad (3 + i) = r1 i := fun i hi => by
      rw [← had]
      show (if 3 + i = 1 then h0 else _) = _
      simp only [show ∀ z, z < 3 → (3 + i = z) = False from fun z hz => eq_false (by omega), show ∀ z, z ≤ 3 → (3 + i < z) = False from fun z hz => eq_false (by omega), show (3 + i < 43) = True from eq_true (by omega), if_true, if_false, Nat.add_sub_cancel_left, Nat.reduceLT, Nat.reduceLeDiff]
    rw [show 42 = (2 + 40) from rfl]
    rw [gsl_app]
    have e0 : gsl g ad 1 2 = [(h0, .inr (2, [.ref q1, .int 0])), (q1, .inl (g.2, 40, .inr (.inr (.inr (.inr (fun i => if i < 40 then some (r1 i) else none))))))] := by
      show [(ad 1, g_ce g ad (g_ln (fun _ => 500) 1) (fun _ => 0) 1), (ad 2, g_ce g ad (g_ln (fun _ => 500) 2) (fun _ => 0) 2)] = _
      simp only [g_ce, Nat.reduceEqDiff, if_true, if_false, f0, f1, g_out_r f2, g_ln, g_len, Nat.reduceLeDiff, Nat.reduceLT, and_self, and_true, true_and, false_and, and_false, or_self, or_false, false_or, reduceCtorEq]
    have e1 : gsl g ad 3 40 = g_rows r1 (.inl (g.1, 7, .inl (fun _ => 0))) := gsl_rows f2 (by decide +kernel)
    try simp only [Nat.reduceAdd]
    rw [e0, e1]
  rw [hfin] at hP hD
  subst hAe
  exact W.vret hx hb hr (fun t ht hW => ⟨⟨_, rfl, rfl, by rw [ht]; exact hP, va_K.moved hW.alike hK, hD⟩, hS.F ht⟩) hS.2.2 dX2_init_16 hlocks
set_option maxHeartbeats 4000000 in
set_option maxRecDepth 100000 in
theorem kX3_init {l : Launch} {D : va_G} {g : gT} : gCt l yX3_init cX3_init 1 D g (.inr (3, [.null, .null, .null, .null])) 43 85 84 2800 := by
  intro h0 sz
  refine Met.ofW (cc := cX3_init) (maxL := 1) (ret := none) (by decide) rfl ?_
  intro p e s m args below meth c s₁ B hml hv
  obtain ⟨rfl, hsz, hP, hK, hD0, hNW⟩ := hv
  have hx := B.exec
  have hb := B.bytes
  have hr := B.returns
  have hts : ∀ w ∈ gtb, w.before #[Value.ref h0] s = true := fun w hw => atoms_spec (ws := g_ws yX3_init cX3_init 1 none) B.pre w (List.mem_cons_of_mem _ hw)
  have hown : s.vm.findClass RX3 = some m.cls := findClass_of_methodNamed B.named
  have hlocks := B.notSynchronized
  have hin : meth.name = "<init>" := (name_of_methodNamed B.named B.method).1
  subst hsz
  have hD := hD0.self (sz := s.heap.size)
  generalize hAe : va_A [(h0, (.inr (3, [.null, .null, .null, .null]) : va_E))] s.heap.size = A at hD ⊢
  have hA : ∀ q : Nat, s.heap.size ≤ q → A q := fun q h => by rw [← hAe]; exact Or.inr h
  have hS : va_S A s.heap s.heap [] := va_S.rf
  have hl := lv_entry ([.ref h0]) (n := 1) (Nat.le_of_ble_eq_true rfl)
  rw [lg_entry_eq]
  generalize (lg_sl ([.ref h0]) ++ List.replicate (1 - (lg_sl ([.ref h0])).length) Slot.unset).toArray = ls at hl ⊢
  have hl : lv_has ls 1 [(0, .ref h0)] := hl
  refine lv_aload_n hx hb dX3_init_0 rfl (lv_at hl 0 rfl) ?_
  refine W.objInit hx hb hown (hts _ qo_3) (hts _ qo_inst) (hts _ qo_code) rfl (by rw [hml]; exact hl.1) rfl dX3_init_1 (Nat.le_of_ble_eq_true rfl) (Nat.le_of_ble_eq_true rfl) ?_
  refine W.eq (g2 := F0 m 4 ls []) rfl ?_
  refine lv_aload_n hx hb dX3_init_4 rfl (lv_at hl 0 rfl) ?_
  refine lv_bipush (v := 40) hx hb dX3_init_5 (by decide) ?_
  refine lv_bipush (v := 60) hx hb dX3_init_7 (by decide) ?_
  refine va_mna (X := [(h0, .inr (3, [.null, .null, .null, .null]))]) (L := []) (f := fun _ => .inl (g.1, 0, .inl (fun _ => 0))) (ty := .int) (cy := g.1) (N' := 40) (K' := 60) (z := (60, .inl (fun _ => 0))) hx hb hown (hts _ qm2_X3_9) hNW.2 (hts _ qa_int) (hK.2 0 _ rfl).2 hK (by rw [show va_pl [] (fun _ => (.inl (g.1, 0, .inl (fun _ => 0)) : va_E)) = [] from rfl, List.append_nil]; exact hP) (by rw [show va_pl [] (fun _ => (.inl (g.1, 0, .inl (fun _ => 0)) : va_E)) = [] from rfl, List.append_nil]; exact hD) hS hA (by decide) (by decide) (by decide) (by decide) (Nat.le_of_ble_eq_true rfl) (Nat.le_of_ble_eq_true rfl) (Nat.le_of_ble_eq_true rfl) rfl rfl (Nat.le_of_ble_eq_true rfl) (Nat.le_of_ble_eq_true rfl) (fun c => rfl) dX3_init_9 (fun q1 r1 cA H _ _ hK1 hP hD hS => ?_)
  obtain rfl : cA = g.2 := g_clsO hK1
  rw [g_mnaRows] at hP hD
  have hP : va_P D vwCl (([(h0, .inr (3, [.null, .null, .null, .null])), (q1, .inl (g.2, 40, .inr (.inr (.inr (.inr (fun i => if i < 40 then some (r1 i) else none))))))]) ++ g_rows r1 (.inl (g.1, 60, .inl (fun _ => 0)))) H := hP
  have hD : va_D A (([(h0, .inr (3, [.null, .null, .null, .null])), (q1, .inl (g.2, 40, .inr (.inr (.inr (.inr (fun i => if i < 40 then some (r1 i) else none))))))]) ++ g_rows r1 (.inl (g.1, 60, .inl (fun _ => 0)))) := hD
  refine va_putF (D := D) (ci := 3) (v := .ref q1) (ty := .array (.array .int)) (C := RX3) (T := TX3) (N := 4) hx hb hts gu_3 tyX3 tyX3_ok nmX3 hown hK hP hD hS 0 rfl rfl 0 (by decide) (hts _ qp_X3_11) (fun _ h9 => h9) rfl hin rfl (by decide +kernel) rfl rfl (Nat.le_of_ble_eq_true rfl) dX3_init_13 (fun H locs hP hD hS => ?_)
  have hP : va_P D vwCl (([(h0, .inr (3, [.ref q1, .null, .null, .null])), (q1, .inl (g.2, 40, .inr (.inr (.inr (.inr (fun i => if i < 40 then some (r1 i) else none))))))]) ++ g_rows r1 (.inl (g.1, 60, .inl (fun _ => 0)))) H := hP
  have hD : va_D A (([(h0, .inr (3, [.ref q1, .null, .null, .null])), (q1, .inl (g.2, 40, .inr (.inr (.inr (.inr (fun i => if i < 40 then some (r1 i) else none))))))]) ++ g_rows r1 (.inl (g.1, 60, .inl (fun _ => 0)))) := hD
  refine lv_aload_n hx hb dX3_init_16 rfl (lv_at hl 0 rfl) ?_
  refine lv_bipush (v := 40) hx hb dX3_init_17 (by decide) ?_
  refine lv_iconst (v := 5) hx hb dX3_init_19 (by decide) ?_
  refine va_mna (X := ([(h0, .inr (3, [.ref q1, .null, .null, .null])), (q1, .inl (g.2, 40, .inr (.inr (.inr (.inr (fun i => if i < 40 then some (r1 i) else none))))))]) ++ g_rows r1 (.inl (g.1, 60, .inl (fun _ => 0)))) (L := []) (f := fun _ => .inl (g.1, 0, .inl (fun _ => 0))) (ty := .int) (cy := g.1) (N' := 40) (K' := 5) (z := (5, .inl (fun _ => 0))) hx hb hown (hts _ qm2_X3_9) hNW.2 (hts _ qa_int) (hK.2 0 _ rfl).2 hK (by rw [show va_pl [] (fun _ => (.inl (g.1, 0, .inl (fun _ => 0)) : va_E)) = [] from rfl, List.append_nil]; exact hP) (by rw [show va_pl [] (fun _ => (.inl (g.1, 0, .inl (fun _ => 0)) : va_E)) = [] from rfl, List.append_nil]; exact hD) hS hA (by decide) (by decide) (by decide) (by decide) (Nat.le_of_ble_eq_true rfl) (Nat.le_of_ble_eq_true rfl) (Nat.le_of_ble_eq_true rfl) rfl rfl (Nat.le_of_ble_eq_true rfl) (Nat.le_of_ble_eq_true rfl) (fun c => rfl) dX3_init_20 (fun q2 r2 cA H _ _ hK1 hP hD hS => ?_)
  obtain rfl : cA = g.2 := g_clsO hK1
  rw [g_mnaRows] at hP hD
  have hP : va_P D vwCl (((([(h0, .inr (3, [.ref q1, .null, .null, .null])), (q1, .inl (g.2, 40, .inr (.inr (.inr (.inr (fun i => if i < 40 then some (r1 i) else none))))))]) ++ g_rows r1 (.inl (g.1, 60, .inl (fun _ => 0)))) ++ [(q2, .inl (g.2, 40, .inr (.inr (.inr (.inr (fun i => if i < 40 then some (r2 i) else none))))))]) ++ g_rows r2 (.inl (g.1, 5, .inl (fun _ => 0)))) H := hP
  have hD : va_D A (((([(h0, .inr (3, [.ref q1, .null, .null, .null])), (q1, .inl (g.2, 40, .inr (.inr (.inr (.inr (fun i => if i < 40 then some (r1 i) else none))))))]) ++ g_rows r1 (.inl (g.1, 60, .inl (fun _ => 0)))) ++ [(q2, .inl (g.2, 40, .inr (.inr (.inr (.inr (fun i => if i < 40 then some (r2 i) else none))))))]) ++ g_rows r2 (.inl (g.1, 5, .inl (fun _ => 0)))) := hD
  refine va_putF (D := D) (ci := 3) (v := .ref q2) (ty := .array (.array .int)) (C := RX3) (T := TX3) (N := 4) hx hb hts gu_3 tyX3 tyX3_ok nmX3 hown hK hP hD hS 0 rfl rfl 1 (by decide) (hts _ qp_X3_16) (fun _ h9 => h9) rfl hin rfl (by decide +kernel) rfl rfl (Nat.le_of_ble_eq_true rfl) dX3_init_24 (fun H locs hP hD hS => ?_)
  have hP : va_P D vwCl (((([(h0, .inr (3, [.ref q1, .ref q2, .null, .null])), (q1, .inl (g.2, 40, .inr (.inr (.inr (.inr (fun i => if i < 40 then some (r1 i) else none))))))]) ++ g_rows r1 (.inl (g.1, 60, .inl (fun _ => 0)))) ++ [(q2, .inl (g.2, 40, .inr (.inr (.inr (.inr (fun i => if i < 40 then some (r2 i) else none))))))]) ++ g_rows r2 (.inl (g.1, 5, .inl (fun _ => 0)))) H := hP
  have hD : va_D A (((([(h0, .inr (3, [.ref q1, .ref q2, .null, .null])), (q1, .inl (g.2, 40, .inr (.inr (.inr (.inr (fun i => if i < 40 then some (r1 i) else none))))))]) ++ g_rows r1 (.inl (g.1, 60, .inl (fun _ => 0)))) ++ [(q2, .inl (g.2, 40, .inr (.inr (.inr (.inr (fun i => if i < 40 then some (r2 i) else none))))))]) ++ g_rows r2 (.inl (g.1, 5, .inl (fun _ => 0)))) := hD
  refine lv_aload_n hx hb dX3_init_27 rfl (lv_at hl 0 rfl) ?_
  refine lv_bipush (v := 60) hx hb dX3_init_28 (by decide) ?_
  refine va_newa (atype := .int) (ty := .int) (N' := 60) (a0 := (60, .inl (fun _ => 0))) hx hb (hts _ qa_int) rfl hK hP hD hS hA (fun _ => rfl) (by decide) (by decide) (Nat.le_of_ble_eq_true rfl) (Nat.le_of_ble_eq_true rfl) (Nat.le_of_ble_eq_true rfl) dX3_init_30 (fun q3 cA H hK1 hP hD hS => ?_)
  obtain rfl : cA = g.1 := g_clsI hK1
  have hP : va_P D vwCl ((((([(h0, .inr (3, [.ref q1, .ref q2, .null, .null])), (q1, .inl (g.2, 40, .inr (.inr (.inr (.inr (fun i => if i < 40 then some (r1 i) else none))))))]) ++ g_rows r1 (.inl (g.1, 60, .inl (fun _ => 0)))) ++ [(q2, .inl (g.2, 40, .inr (.inr (.inr (.inr (fun i => if i < 40 then some (r2 i) else none))))))]) ++ g_rows r2 (.inl (g.1, 5, .inl (fun _ => 0)))) ++ [(q3, .inl (g.1, 60, .inl (fun _ => 0)))]) H := hP
  have hD : va_D A ((((([(h0, .inr (3, [.ref q1, .ref q2, .null, .null])), (q1, .inl (g.2, 40, .inr (.inr (.inr (.inr (fun i => if i < 40 then some (r1 i) else none))))))]) ++ g_rows r1 (.inl (g.1, 60, .inl (fun _ => 0)))) ++ [(q2, .inl (g.2, 40, .inr (.inr (.inr (.inr (fun i => if i < 40 then some (r2 i) else none))))))]) ++ g_rows r2 (.inl (g.1, 5, .inl (fun _ => 0)))) ++ [(q3, .inl (g.1, 60, .inl (fun _ => 0)))]) := hD
  refine va_putF (D := D) (ci := 3) (v := .ref q3) (ty := .array .int) (C := RX3) (T := TX3) (N := 4) hx hb hts gu_3 tyX3 tyX3_ok nmX3 hown hK hP hD hS 0 rfl rfl 2 (by decide) (hts _ qp_X3_19) (fun _ h9 => h9) rfl hin rfl (by decide +kernel) rfl rfl (Nat.le_of_ble_eq_true rfl) dX3_init_32 (fun H locs hP hD hS => ?_)
  have hP : va_P D vwCl ((((([(h0, .inr (3, [.ref q1, .ref q2, .ref q3, .null])), (q1, .inl (g.2, 40, .inr (.inr (.inr (.inr (fun i => if i < 40 then some (r1 i) else none))))))]) ++ g_rows r1 (.inl (g.1, 60, .inl (fun _ => 0)))) ++ [(q2, .inl (g.2, 40, .inr (.inr (.inr (.inr (fun i => if i < 40 then some (r2 i) else none))))))]) ++ g_rows r2 (.inl (g.1, 5, .inl (fun _ => 0)))) ++ [(q3, .inl (g.1, 60, .inl (fun _ => 0)))]) H := hP
  have hD : va_D A ((((([(h0, .inr (3, [.ref q1, .ref q2, .ref q3, .null])), (q1, .inl (g.2, 40, .inr (.inr (.inr (.inr (fun i => if i < 40 then some (r1 i) else none))))))]) ++ g_rows r1 (.inl (g.1, 60, .inl (fun _ => 0)))) ++ [(q2, .inl (g.2, 40, .inr (.inr (.inr (.inr (fun i => if i < 40 then some (r2 i) else none))))))]) ++ g_rows r2 (.inl (g.1, 5, .inl (fun _ => 0)))) ++ [(q3, .inl (g.1, 60, .inl (fun _ => 0)))]) := hD
  refine lv_aload_n hx hb dX3_init_35 rfl (lv_at hl 0 rfl) ?_
  refine lv_bipush (v := 60) hx hb dX3_init_36 (by decide) ?_
  refine va_newa (atype := .int) (ty := .int) (N' := 60) (a0 := (60, .inl (fun _ => 0))) hx hb (hts _ qa_int) rfl hK hP hD hS hA (fun _ => rfl) (by decide) (by decide) (Nat.le_of_ble_eq_true rfl) (Nat.le_of_ble_eq_true rfl) (Nat.le_of_ble_eq_true rfl) dX3_init_38 (fun q4 cA H hK1 hP hD hS => ?_)
  obtain rfl : cA = g.1 := g_clsI hK1
  have hP : va_P D vwCl (((((([(h0, .inr (3, [.ref q1, .ref q2, .ref q3, .null])), (q1, .inl (g.2, 40, .inr (.inr (.inr (.inr (fun i => if i < 40 then some (r1 i) else none))))))]) ++ g_rows r1 (.inl (g.1, 60, .inl (fun _ => 0)))) ++ [(q2, .inl (g.2, 40, .inr (.inr (.inr (.inr (fun i => if i < 40 then some (r2 i) else none))))))]) ++ g_rows r2 (.inl (g.1, 5, .inl (fun _ => 0)))) ++ [(q3, .inl (g.1, 60, .inl (fun _ => 0)))]) ++ [(q4, .inl (g.1, 60, .inl (fun _ => 0)))]) H := hP
  have hD : va_D A (((((([(h0, .inr (3, [.ref q1, .ref q2, .ref q3, .null])), (q1, .inl (g.2, 40, .inr (.inr (.inr (.inr (fun i => if i < 40 then some (r1 i) else none))))))]) ++ g_rows r1 (.inl (g.1, 60, .inl (fun _ => 0)))) ++ [(q2, .inl (g.2, 40, .inr (.inr (.inr (.inr (fun i => if i < 40 then some (r2 i) else none))))))]) ++ g_rows r2 (.inl (g.1, 5, .inl (fun _ => 0)))) ++ [(q3, .inl (g.1, 60, .inl (fun _ => 0)))]) ++ [(q4, .inl (g.1, 60, .inl (fun _ => 0)))]) := hD
  refine va_putF (D := D) (ci := 3) (v := .ref q4) (ty := .array .int) (C := RX3) (T := TX3) (N := 4) hx hb hts gu_3 tyX3 tyX3_ok nmX3 hown hK hP hD hS 0 rfl rfl 3 (by decide) (hts _ qp_X3_23) (fun _ h9 => h9) rfl hin rfl (by decide +kernel) rfl rfl (Nat.le_of_ble_eq_true rfl) dX3_init_40 (fun H locs hP hD hS => ?_)
  have hP : va_P D vwCl (((((([(h0, .inr (3, [.ref q1, .ref q2, .ref q3, .ref q4])), (q1, .inl (g.2, 40, .inr (.inr (.inr (.inr (fun i => if i < 40 then some (r1 i) else none))))))]) ++ g_rows r1 (.inl (g.1, 60, .inl (fun _ => 0)))) ++ [(q2, .inl (g.2, 40, .inr (.inr (.inr (.inr (fun i => if i < 40 then some (r2 i) else none))))))]) ++ g_rows r2 (.inl (g.1, 5, .inl (fun _ => 0)))) ++ [(q3, .inl (g.1, 60, .inl (fun _ => 0)))]) ++ [(q4, .inl (g.1, 60, .inl (fun _ => 0)))]) H := hP
  have hD : va_D A (((((([(h0, .inr (3, [.ref q1, .ref q2, .ref q3, .ref q4])), (q1, .inl (g.2, 40, .inr (.inr (.inr (.inr (fun i => if i < 40 then some (r1 i) else none))))))]) ++ g_rows r1 (.inl (g.1, 60, .inl (fun _ => 0)))) ++ [(q2, .inl (g.2, 40, .inr (.inr (.inr (.inr (fun i => if i < 40 then some (r2 i) else none))))))]) ++ g_rows r2 (.inl (g.1, 5, .inl (fun _ => 0)))) ++ [(q3, .inl (g.1, 60, .inl (fun _ => 0)))]) ++ [(q4, .inl (g.1, 60, .inl (fun _ => 0)))]) := hD
  have hfin : ((((([(h0, .inr (3, [.ref q1, .ref q2, .ref q3, .ref q4])), (q1, .inl (g.2, 40, .inr (.inr (.inr (.inr (fun i => if i < 40 then some (r1 i) else none))))))]) ++ g_rows r1 (.inl (g.1, 60, .inl (fun _ => 0)))) ++ [(q2, .inl (g.2, 40, .inr (.inr (.inr (.inr (fun i => if i < 40 then some (r2 i) else none))))))]) ++ g_rows r2 (.inl (g.1, 5, .inl (fun _ => 0)))) ++ [(q3, .inl (g.1, 60, .inl (fun _ => 0)))]) ++ [(q4, .inl (g.1, 60, .inl (fun _ => 0)))] = gsl g (fun i => if i = 43 then h0 else if i = 44 then q1 else if i < 85 then r1 (i - 45) else if i = 85 then q2 else if i < 126 then r2 (i - 86) else if i = 126 then q3 else if i = 127 then q4 else 0) 43 85 := by
    generalize had : (fun i : Nat => if i = 43 then h0 else if i = 44 then q1 else if i < 85 then r1 (i - 45) else if i = 85 then q2 else if i < 126 then r2 (i - 86) else if i = 126 then q3 else if i = 127 then q4 else 0) = ad
    have f0 : ad 43 = h0 := by rw [← had]; rfl
    have f1 : ad 44 = q1 := by rw [← had]; rfl
    have f2 : ∀ i, i < 40 → ad (45 + i) = r1 i := fun i hi => by
      rw [← had]
      show (if 45 + i = 43 then h0 else _) = _
      simp only [show ∀ z, z < 45 → (45 + i = z) = False from fun z hz => eq_false (by omega), show ∀ z, z ≤ 45 → (45 + i < z) = False from fun z hz => eq_false (by omega), show (45 + i < 85) = True from eq_true (by omega), if_true, if_false, Nat.add_sub_cancel_left, Nat.reduceLT, Nat.reduceLeDiff]
    have f3 : ad 85 = q2 := by rw [← had]; rfl
    have f4 : ∀ i, i < 40 → ad (86 + i) = r2 i := fun i hi => by
      rw [← had]
      show (if 86 + i = 43 then h0 else _) = _
      simp only [show ∀ z, z < 86 → (86 + i = z) = False from fun z hz => eq_false (by omega), show ∀ z, z ≤ 86 → (86 + i < z) = False from fun z hz => eq_false (by omega), show (86 + i < 126) = True from eq_true (by omega), if_true, if_false, Nat.add_sub_cancel_left, Nat.reduceLT, Nat.reduceLeDiff]
    have f5 : ad 126 = q3 := by rw [← had]; rfl
    have f6 : ad 127 = q4 := by rw [← had]; rfl
    rw [show 85 = (((((2 + 40) + 1) + 40) + 1) + 1) from rfl]
    rw [gsl_app]
    rw [gsl_app]
    rw [gsl_app]
    rw [gsl_app]
    rw [gsl_app]
    have e0 : gsl g ad 43 2 = [(h0, .inr (3, [.ref q1, .ref q2, .ref q3, .ref q4])), (q1, .inl (g.2, 40, .inr (.inr (.inr (.inr (fun i => if i < 40 then some (r1 i) else none))))))] := by
      show [(ad 43, g_ce g ad (g_ln (fun _ => 500) 43) (fun _ => 0) 43), (ad 44, g_ce g ad (g_ln (fun _ => 500) 44) (fun _ => 0) 44)] = _
      simp only [g_ce, Nat.reduceEqDiff, if_true, if_false, f0, f1, f3, f5, f6, g_out_r f2, g_out_r f4, g_ln, g_len, Nat.reduceLeDiff, Nat.reduceLT, and_self, and_true, true_and, false_and, and_false, or_self, or_false, false_or, reduceCtorEq]
    have e1 : gsl g ad 45 40 = g_rows r1 (.inl (g.1, 60, .inl (fun _ => 0))) := gsl_rows f2 (by decide +kernel)
    have e2 : gsl g ad 85 1 = [(q2, .inl (g.2, 40, .inr (.inr (.inr (.inr (fun i => if i < 40 then some (r2 i) else none))))))] := by
      show [(ad 85, g_ce g ad (g_ln (fun _ => 500) 85) (fun _ => 0) 85)] = _
      simp only [g_ce, Nat.reduceEqDiff, if_true, if_false, f0, f1, f3, f5, f6, g_out_r f2, g_out_r f4, g_ln, g_len, Nat.reduceLeDiff, Nat.reduceLT, and_self, and_true, true_and, false_and, and_false, or_self, or_false, false_or, reduceCtorEq]
    have e3 : gsl g ad 86 40 = g_rows r2 (.inl (g.1, 5, .inl (fun _ => 0))) := gsl_rows f4 (by decide +kernel)
    have e4 : gsl g ad 126 1 = [(q3, .inl (g.1, 60, .inl (fun _ => 0)))] := by
      show [(ad 126, g_ce g ad (g_ln (fun _ => 500) 126) (fun _ => 0) 126)] = _
      simp only [g_ce, Nat.reduceEqDiff, if_true, if_false, f0, f1, f3, f5, f6, g_out_r f2, g_out_r f4, g_ln, g_len, Nat.reduceLeDiff, Nat.reduceLT, and_self, and_true, true_and, false_and, and_false, or_self, or_false, false_or, reduceCtorEq]
    have e5 : gsl g ad 127 1 = [(q4, .inl (g.1, 60, .inl (fun _ => 0)))] := by
      show [(ad 127, g_ce g ad (g_ln (fun _ => 500) 127) (fun _ => 0) 127)] = _
      simp only [g_ce, Nat.reduceEqDiff, if_true, if_false, f0, f1, f3, f5, f6, g_out_r f2, g_out_r f4, g_ln, g_len, Nat.reduceLeDiff, Nat.reduceLT, and_self, and_true, true_and, false_and, and_false, or_self, or_false, false_or, reduceCtorEq]
    try simp only [Nat.reduceAdd]
    rw [e0, e1, e2, e3, e4, e5]
  rw [hfin] at hP hD
  subst hAe
  exact W.vret hx hb hr (fun t ht hW => ⟨⟨_, rfl, rfl, by rw [ht]; exact hP, va_K.moved hW.alike hK, hD⟩, hS.F ht⟩) hS.2.2 dX3_init_43 hlocks
set_option maxHeartbeats 4000000 in
set_option maxRecDepth 100000 in
theorem kX4_init {l : Launch} {D : va_G} {g : gT} : gCt l yX4_init cX4_init 1 D g (.inr (4, [.null, .null, .null, .null, .null, .null, .null, .null, .int 0, .int 0, .int 0])) 129 9 8 26084 := by
  intro h0 sz
  refine Met.ofW (cc := cX4_init) (maxL := 1) (ret := none) (by decide) rfl ?_
  intro p e s m args below meth c s₁ B hml hv
  obtain ⟨rfl, hsz, hP, hK, hD0, hNW⟩ := hv
  have hx := B.exec
  have hb := B.bytes
  have hr := B.returns
  have hts : ∀ w ∈ gtb, w.before #[Value.ref h0] s = true := fun w hw => atoms_spec (ws := g_ws yX4_init cX4_init 1 none) B.pre w (List.mem_cons_of_mem _ hw)
  have hown : s.vm.findClass RX4 = some m.cls := findClass_of_methodNamed B.named
  have hlocks := B.notSynchronized
  have hin : meth.name = "<init>" := (name_of_methodNamed B.named B.method).1
  subst hsz
  have hD := hD0.self (sz := s.heap.size)
  generalize hAe : va_A [(h0, (.inr (4, [.null, .null, .null, .null, .null, .null, .null, .null, .int 0, .int 0, .int 0]) : va_E))] s.heap.size = A at hD ⊢
  have hA : ∀ q : Nat, s.heap.size ≤ q → A q := fun q h => by rw [← hAe]; exact Or.inr h
  have hS : va_S A s.heap s.heap [] := va_S.rf
  have hl := lv_entry ([.ref h0]) (n := 1) (Nat.le_of_ble_eq_true rfl)
  rw [lg_entry_eq]
  generalize (lg_sl ([.ref h0]) ++ List.replicate (1 - (lg_sl ([.ref h0])).length) Slot.unset).toArray = ls at hl ⊢
  have hl : lv_has ls 1 [(0, .ref h0)] := hl
  refine lv_aload_n hx hb dX4_init_0 rfl (lv_at hl 0 rfl) ?_
  refine W.objInit hx hb hown (hts _ qo_4) (hts _ qo_inst) (hts _ qo_code) rfl (by rw [hml]; exact hl.1) rfl dX4_init_1 (Nat.le_of_ble_eq_true rfl) (Nat.le_of_ble_eq_true rfl) ?_
  refine W.eq (g2 := F0 m 4 ls []) rfl ?_
  refine lv_aload_n hx hb dX4_init_4 rfl (lv_at hl 0 rfl) ?_
  refine lv_sipush (v := 2600) hx hb dX4_init_5 (by decide) ?_
  refine va_newa (atype := .int) (ty := .int) (N' := 2600) (a0 := (2600, .inl (fun _ => 0))) hx hb (hts _ qa_int) rfl hK hP hD hS hA (fun _ => rfl) (by decide) (by decide) (Nat.le_of_ble_eq_true rfl) (Nat.le_of_ble_eq_true rfl) (Nat.le_of_ble_eq_true rfl) dX4_init_8 (fun q1 cA H hK1 hP hD hS => ?_)
  obtain rfl : cA = g.1 := g_clsI hK1
  have hP : va_P D vwCl ([(h0, .inr (4, [.null, .null, .null, .null, .null, .null, .null, .null, .int 0, .int 0, .int 0])), (q1, .inl (g.1, 2600, .inl (fun _ => 0)))]) H := hP
  have hD : va_D A ([(h0, .inr (4, [.null, .null, .null, .null, .null, .null, .null, .null, .int 0, .int 0, .int 0])), (q1, .inl (g.1, 2600, .inl (fun _ => 0)))]) := hD
  refine va_putF (D := D) (ci := 4) (v := .ref q1) (ty := .array .int) (C := RX4) (T := TX4) (N := 11) hx hb hts gu_4 tyX4 tyX4_ok nmX4 hown hK hP hD hS 0 rfl rfl 0 (by decide) (hts _ qp_X4_11) (fun _ h9 => h9) rfl hin rfl (by decide +kernel) rfl rfl (Nat.le_of_ble_eq_true rfl) dX4_init_10 (fun H locs hP hD hS => ?_)
  have hP : va_P D vwCl ([(h0, .inr (4, [.ref q1, .null, .null, .null, .null, .null, .null, .null, .int 0, .int 0, .int 0])), (q1, .inl (g.1, 2600, .inl (fun _ => 0)))]) H := hP
  have hD : va_D A ([(h0, .inr (4, [.ref q1, .null, .null, .null, .null, .null, .null, .null, .int 0, .int 0, .int 0])), (q1, .inl (g.1, 2600, .inl (fun _ => 0)))]) := hD
  refine lv_aload_n hx hb dX4_init_13 rfl (lv_at hl 0 rfl) ?_
  refine lv_sipush (v := 2600) hx hb dX4_init_14 (by decide) ?_
  refine va_newa (atype := .int) (ty := .int) (N' := 2600) (a0 := (2600, .inl (fun _ => 0))) hx hb (hts _ qa_int) rfl hK hP hD hS hA (fun _ => rfl) (by decide) (by decide) (Nat.le_of_ble_eq_true rfl) (Nat.le_of_ble_eq_true rfl) (Nat.le_of_ble_eq_true rfl) dX4_init_17 (fun q2 cA H hK1 hP hD hS => ?_)
  obtain rfl : cA = g.1 := g_clsI hK1
  have hP : va_P D vwCl ([(h0, .inr (4, [.ref q1, .null, .null, .null, .null, .null, .null, .null, .int 0, .int 0, .int 0])), (q1, .inl (g.1, 2600, .inl (fun _ => 0))), (q2, .inl (g.1, 2600, .inl (fun _ => 0)))]) H := hP
  have hD : va_D A ([(h0, .inr (4, [.ref q1, .null, .null, .null, .null, .null, .null, .null, .int 0, .int 0, .int 0])), (q1, .inl (g.1, 2600, .inl (fun _ => 0))), (q2, .inl (g.1, 2600, .inl (fun _ => 0)))]) := hD
  refine va_putF (D := D) (ci := 4) (v := .ref q2) (ty := .array .int) (C := RX4) (T := TX4) (N := 11) hx hb hts gu_4 tyX4 tyX4_ok nmX4 hown hK hP hD hS 0 rfl rfl 1 (by decide) (hts _ qp_X4_15) (fun _ h9 => h9) rfl hin rfl (by decide +kernel) rfl rfl (Nat.le_of_ble_eq_true rfl) dX4_init_19 (fun H locs hP hD hS => ?_)
  have hP : va_P D vwCl ([(h0, .inr (4, [.ref q1, .ref q2, .null, .null, .null, .null, .null, .null, .int 0, .int 0, .int 0])), (q1, .inl (g.1, 2600, .inl (fun _ => 0))), (q2, .inl (g.1, 2600, .inl (fun _ => 0)))]) H := hP
  have hD : va_D A ([(h0, .inr (4, [.ref q1, .ref q2, .null, .null, .null, .null, .null, .null, .int 0, .int 0, .int 0])), (q1, .inl (g.1, 2600, .inl (fun _ => 0))), (q2, .inl (g.1, 2600, .inl (fun _ => 0)))]) := hD
  refine lv_aload_n hx hb dX4_init_22 rfl (lv_at hl 0 rfl) ?_
  refine lv_sipush (v := 2600) hx hb dX4_init_23 (by decide) ?_
  refine va_newa (atype := .int) (ty := .int) (N' := 2600) (a0 := (2600, .inl (fun _ => 0))) hx hb (hts _ qa_int) rfl hK hP hD hS hA (fun _ => rfl) (by decide) (by decide) (Nat.le_of_ble_eq_true rfl) (Nat.le_of_ble_eq_true rfl) (Nat.le_of_ble_eq_true rfl) dX4_init_26 (fun q3 cA H hK1 hP hD hS => ?_)
  obtain rfl : cA = g.1 := g_clsI hK1
  have hP : va_P D vwCl ([(h0, .inr (4, [.ref q1, .ref q2, .null, .null, .null, .null, .null, .null, .int 0, .int 0, .int 0])), (q1, .inl (g.1, 2600, .inl (fun _ => 0))), (q2, .inl (g.1, 2600, .inl (fun _ => 0))), (q3, .inl (g.1, 2600, .inl (fun _ => 0)))]) H := hP
  have hD : va_D A ([(h0, .inr (4, [.ref q1, .ref q2, .null, .null, .null, .null, .null, .null, .int 0, .int 0, .int 0])), (q1, .inl (g.1, 2600, .inl (fun _ => 0))), (q2, .inl (g.1, 2600, .inl (fun _ => 0))), (q3, .inl (g.1, 2600, .inl (fun _ => 0)))]) := hD
  refine va_putF (D := D) (ci := 4) (v := .ref q3) (ty := .array .int) (C := RX4) (T := TX4) (N := 11) hx hb hts gu_4 tyX4 tyX4_ok nmX4 hown hK hP hD hS 0 rfl rfl 2 (by decide) (hts _ qp_X4_18) (fun _ h9 => h9) rfl hin rfl (by decide +kernel) rfl rfl (Nat.le_of_ble_eq_true rfl) dX4_init_28 (fun H locs hP hD hS => ?_)
  have hP : va_P D vwCl ([(h0, .inr (4, [.ref q1, .ref q2, .ref q3, .null, .null, .null, .null, .null, .int 0, .int 0, .int 0])), (q1, .inl (g.1, 2600, .inl (fun _ => 0))), (q2, .inl (g.1, 2600, .inl (fun _ => 0))), (q3, .inl (g.1, 2600, .inl (fun _ => 0)))]) H := hP
  have hD : va_D A ([(h0, .inr (4, [.ref q1, .ref q2, .ref q3, .null, .null, .null, .null, .null, .int 0, .int 0, .int 0])), (q1, .inl (g.1, 2600, .inl (fun _ => 0))), (q2, .inl (g.1, 2600, .inl (fun _ => 0))), (q3, .inl (g.1, 2600, .inl (fun _ => 0)))]) := hD
  refine lv_aload_n hx hb dX4_init_31 rfl (lv_at hl 0 rfl) ?_
  refine lv_sipush (v := 2600) hx hb dX4_init_32 (by decide) ?_
  refine va_newa (atype := .int) (ty := .int) (N' := 2600) (a0 := (2600, .inl (fun _ => 0))) hx hb (hts _ qa_int) rfl hK hP hD hS hA (fun _ => rfl) (by decide) (by decide) (Nat.le_of_ble_eq_true rfl) (Nat.le_of_ble_eq_true rfl) (Nat.le_of_ble_eq_true rfl) dX4_init_35 (fun q4 cA H hK1 hP hD hS => ?_)
  obtain rfl : cA = g.1 := g_clsI hK1
  have hP : va_P D vwCl ([(h0, .inr (4, [.ref q1, .ref q2, .ref q3, .null, .null, .null, .null, .null, .int 0, .int 0, .int 0])), (q1, .inl (g.1, 2600, .inl (fun _ => 0))), (q2, .inl (g.1, 2600, .inl (fun _ => 0))), (q3, .inl (g.1, 2600, .inl (fun _ => 0))), (q4, .inl (g.1, 2600, .inl (fun _ => 0)))]) H := hP
  have hD : va_D A ([(h0, .inr (4, [.ref q1, .ref q2, .ref q3, .null, .null, .null, .null, .null, .int 0, .int 0, .int 0])), (q1, .inl (g.1, 2600, .inl (fun _ => 0))), (q2, .inl (g.1, 2600, .inl (fun _ => 0))), (q3, .inl (g.1, 2600, .inl (fun _ => 0))), (q4, .inl (g.1, 2600, .inl (fun _ => 0)))]) := hD
  refine va_putF (D := D) (ci := 4) (v := .ref q4) (ty := .array .int) (C := RX4) (T := TX4) (N := 11) hx hb hts gu_4 tyX4 tyX4_ok nmX4 hown hK hP hD hS 0 rfl rfl 3 (by decide) (hts _ qp_X4_21) (fun _ h9 => h9) rfl hin rfl (by decide +kernel) rfl rfl (Nat.le_of_ble_eq_true rfl) dX4_init_37 (fun H locs hP hD hS => ?_)
  have hP : va_P D vwCl ([(h0, .inr (4, [.ref q1, .ref q2, .ref q3, .ref q4, .null, .null, .null, .null, .int 0, .int 0, .int 0])), (q1, .inl (g.1, 2600, .inl (fun _ => 0))), (q2, .inl (g.1, 2600, .inl (fun _ => 0))), (q3, .inl (g.1, 2600, .inl (fun _ => 0))), (q4, .inl (g.1, 2600, .inl (fun _ => 0)))]) H := hP
  have hD : va_D A ([(h0, .inr (4, [.ref q1, .ref q2, .ref q3, .ref q4, .null, .null, .null, .null, .int 0, .int 0, .int 0])), (q1, .inl (g.1, 2600, .inl (fun _ => 0))), (q2, .inl (g.1, 2600, .inl (fun _ => 0))), (q3, .inl (g.1, 2600, .inl (fun _ => 0))), (q4, .inl (g.1, 2600, .inl (fun _ => 0)))]) := hD
  refine lv_aload_n hx hb dX4_init_40 rfl (lv_at hl 0 rfl) ?_
  refine lv_sipush (v := 5208) hx hb dX4_init_41 (by decide) ?_
  refine va_newa (atype := .int) (ty := .int) (N' := 5208) (a0 := (5208, .inl (fun _ => 0))) hx hb (hts _ qa_int) rfl hK hP hD hS hA (fun _ => rfl) (by decide) (by decide) (Nat.le_of_ble_eq_true rfl) (Nat.le_of_ble_eq_true rfl) (Nat.le_of_ble_eq_true rfl) dX4_init_44 (fun q5 cA H hK1 hP hD hS => ?_)
  obtain rfl : cA = g.1 := g_clsI hK1
  have hP : va_P D vwCl ([(h0, .inr (4, [.ref q1, .ref q2, .ref q3, .ref q4, .null, .null, .null, .null, .int 0, .int 0, .int 0])), (q1, .inl (g.1, 2600, .inl (fun _ => 0))), (q2, .inl (g.1, 2600, .inl (fun _ => 0))), (q3, .inl (g.1, 2600, .inl (fun _ => 0))), (q4, .inl (g.1, 2600, .inl (fun _ => 0))), (q5, .inl (g.1, 5208, .inl (fun _ => 0)))]) H := hP
  have hD : va_D A ([(h0, .inr (4, [.ref q1, .ref q2, .ref q3, .ref q4, .null, .null, .null, .null, .int 0, .int 0, .int 0])), (q1, .inl (g.1, 2600, .inl (fun _ => 0))), (q2, .inl (g.1, 2600, .inl (fun _ => 0))), (q3, .inl (g.1, 2600, .inl (fun _ => 0))), (q4, .inl (g.1, 2600, .inl (fun _ => 0))), (q5, .inl (g.1, 5208, .inl (fun _ => 0)))]) := hD
  refine va_putF (D := D) (ci := 4) (v := .ref q5) (ty := .array .int) (C := RX4) (T := TX4) (N := 11) hx hb hts gu_4 tyX4 tyX4_ok nmX4 hown hK hP hD hS 0 rfl rfl 4 (by decide) (hts _ qp_X4_24) (fun _ h9 => h9) rfl hin rfl (by decide +kernel) rfl rfl (Nat.le_of_ble_eq_true rfl) dX4_init_46 (fun H locs hP hD hS => ?_)
  have hP : va_P D vwCl ([(h0, .inr (4, [.ref q1, .ref q2, .ref q3, .ref q4, .ref q5, .null, .null, .null, .int 0, .int 0, .int 0])), (q1, .inl (g.1, 2600, .inl (fun _ => 0))), (q2, .inl (g.1, 2600, .inl (fun _ => 0))), (q3, .inl (g.1, 2600, .inl (fun _ => 0))), (q4, .inl (g.1, 2600, .inl (fun _ => 0))), (q5, .inl (g.1, 5208, .inl (fun _ => 0)))]) H := hP
  have hD : va_D A ([(h0, .inr (4, [.ref q1, .ref q2, .ref q3, .ref q4, .ref q5, .null, .null, .null, .int 0, .int 0, .int 0])), (q1, .inl (g.1, 2600, .inl (fun _ => 0))), (q2, .inl (g.1, 2600, .inl (fun _ => 0))), (q3, .inl (g.1, 2600, .inl (fun _ => 0))), (q4, .inl (g.1, 2600, .inl (fun _ => 0))), (q5, .inl (g.1, 5208, .inl (fun _ => 0)))]) := hD
  refine lv_aload_n hx hb dX4_init_49 rfl (lv_at hl 0 rfl) ?_
  refine lv_sipush (v := 5208) hx hb dX4_init_50 (by decide) ?_
  refine va_newa (atype := .int) (ty := .int) (N' := 5208) (a0 := (5208, .inl (fun _ => 0))) hx hb (hts _ qa_int) rfl hK hP hD hS hA (fun _ => rfl) (by decide) (by decide) (Nat.le_of_ble_eq_true rfl) (Nat.le_of_ble_eq_true rfl) (Nat.le_of_ble_eq_true rfl) dX4_init_53 (fun q6 cA H hK1 hP hD hS => ?_)
  obtain rfl : cA = g.1 := g_clsI hK1
  have hP : va_P D vwCl ([(h0, .inr (4, [.ref q1, .ref q2, .ref q3, .ref q4, .ref q5, .null, .null, .null, .int 0, .int 0, .int 0])), (q1, .inl (g.1, 2600, .inl (fun _ => 0))), (q2, .inl (g.1, 2600, .inl (fun _ => 0))), (q3, .inl (g.1, 2600, .inl (fun _ => 0))), (q4, .inl (g.1, 2600, .inl (fun _ => 0))), (q5, .inl (g.1, 5208, .inl (fun _ => 0))), (q6, .inl (g.1, 5208, .inl (fun _ => 0)))]) H := hP
  have hD : va_D A ([(h0, .inr (4, [.ref q1, .ref q2, .ref q3, .ref q4, .ref q5, .null, .null, .null, .int 0, .int 0, .int 0])), (q1, .inl (g.1, 2600, .inl (fun _ => 0))), (q2, .inl (g.1, 2600, .inl (fun _ => 0))), (q3, .inl (g.1, 2600, .inl (fun _ => 0))), (q4, .inl (g.1, 2600, .inl (fun _ => 0))), (q5, .inl (g.1, 5208, .inl (fun _ => 0))), (q6, .inl (g.1, 5208, .inl (fun _ => 0)))]) := hD
  refine va_putF (D := D) (ci := 4) (v := .ref q6) (ty := .array .int) (C := RX4) (T := TX4) (N := 11) hx hb hts gu_4 tyX4 tyX4_ok nmX4 hown hK hP hD hS 0 rfl rfl 5 (by decide) (hts _ qp_X4_27) (fun _ h9 => h9) rfl hin rfl (by decide +kernel) rfl rfl (Nat.le_of_ble_eq_true rfl) dX4_init_55 (fun H locs hP hD hS => ?_)
  have hP : va_P D vwCl ([(h0, .inr (4, [.ref q1, .ref q2, .ref q3, .ref q4, .ref q5, .ref q6, .null, .null, .int 0, .int 0, .int 0])), (q1, .inl (g.1, 2600, .inl (fun _ => 0))), (q2, .inl (g.1, 2600, .inl (fun _ => 0))), (q3, .inl (g.1, 2600, .inl (fun _ => 0))), (q4, .inl (g.1, 2600, .inl (fun _ => 0))), (q5, .inl (g.1, 5208, .inl (fun _ => 0))), (q6, .inl (g.1, 5208, .inl (fun _ => 0)))]) H := hP
  have hD : va_D A ([(h0, .inr (4, [.ref q1, .ref q2, .ref q3, .ref q4, .ref q5, .ref q6, .null, .null, .int 0, .int 0, .int 0])), (q1, .inl (g.1, 2600, .inl (fun _ => 0))), (q2, .inl (g.1, 2600, .inl (fun _ => 0))), (q3, .inl (g.1, 2600, .inl (fun _ => 0))), (q4, .inl (g.1, 2600, .inl (fun _ => 0))), (q5, .inl (g.1, 5208, .inl (fun _ => 0))), (q6, .inl (g.1, 5208, .inl (fun _ => 0)))]) := hD
  refine lv_aload_n hx hb dX4_init_58 rfl (lv_at hl 0 rfl) ?_
  refine lv_sipush (v := 5208) hx hb dX4_init_59 (by decide) ?_
  refine va_newa (atype := .int) (ty := .int) (N' := 5208) (a0 := (5208, .inl (fun _ => 0))) hx hb (hts _ qa_int) rfl hK hP hD hS hA (fun _ => rfl) (by decide) (by decide) (Nat.le_of_ble_eq_true rfl) (Nat.le_of_ble_eq_true rfl) (Nat.le_of_ble_eq_true rfl) dX4_init_62 (fun q7 cA H hK1 hP hD hS => ?_)
  obtain rfl : cA = g.1 := g_clsI hK1
  have hP : va_P D vwCl ([(h0, .inr (4, [.ref q1, .ref q2, .ref q3, .ref q4, .ref q5, .ref q6, .null, .null, .int 0, .int 0, .int 0])), (q1, .inl (g.1, 2600, .inl (fun _ => 0))), (q2, .inl (g.1, 2600, .inl (fun _ => 0))), (q3, .inl (g.1, 2600, .inl (fun _ => 0))), (q4, .inl (g.1, 2600, .inl (fun _ => 0))), (q5, .inl (g.1, 5208, .inl (fun _ => 0))), (q6, .inl (g.1, 5208, .inl (fun _ => 0))), (q7, .inl (g.1, 5208, .inl (fun _ => 0)))]) H := hP
  have hD : va_D A ([(h0, .inr (4, [.ref q1, .ref q2, .ref q3, .ref q4, .ref q5, .ref q6, .null, .null, .int 0, .int 0, .int 0])), (q1, .inl (g.1, 2600, .inl (fun _ => 0))), (q2, .inl (g.1, 2600, .inl (fun _ => 0))), (q3, .inl (g.1, 2600, .inl (fun _ => 0))), (q4, .inl (g.1, 2600, .inl (fun _ => 0))), (q5, .inl (g.1, 5208, .inl (fun _ => 0))), (q6, .inl (g.1, 5208, .inl (fun _ => 0))), (q7, .inl (g.1, 5208, .inl (fun _ => 0)))]) := hD
  refine va_putF (D := D) (ci := 4) (v := .ref q7) (ty := .array .int) (C := RX4) (T := TX4) (N := 11) hx hb hts gu_4 tyX4 tyX4_ok nmX4 hown hK hP hD hS 0 rfl rfl 6 (by decide) (hts _ qp_X4_30) (fun _ h9 => h9) rfl hin rfl (by decide +kernel) rfl rfl (Nat.le_of_ble_eq_true rfl) dX4_init_64 (fun H locs hP hD hS => ?_)
  have hP : va_P D vwCl ([(h0, .inr (4, [.ref q1, .ref q2, .ref q3, .ref q4, .ref q5, .ref q6, .ref q7, .null, .int 0, .int 0, .int 0])), (q1, .inl (g.1, 2600, .inl (fun _ => 0))), (q2, .inl (g.1, 2600, .inl (fun _ => 0))), (q3, .inl (g.1, 2600, .inl (fun _ => 0))), (q4, .inl (g.1, 2600, .inl (fun _ => 0))), (q5, .inl (g.1, 5208, .inl (fun _ => 0))), (q6, .inl (g.1, 5208, .inl (fun _ => 0))), (q7, .inl (g.1, 5208, .inl (fun _ => 0)))]) H := hP
  have hD : va_D A ([(h0, .inr (4, [.ref q1, .ref q2, .ref q3, .ref q4, .ref q5, .ref q6, .ref q7, .null, .int 0, .int 0, .int 0])), (q1, .inl (g.1, 2600, .inl (fun _ => 0))), (q2, .inl (g.1, 2600, .inl (fun _ => 0))), (q3, .inl (g.1, 2600, .inl (fun _ => 0))), (q4, .inl (g.1, 2600, .inl (fun _ => 0))), (q5, .inl (g.1, 5208, .inl (fun _ => 0))), (q6, .inl (g.1, 5208, .inl (fun _ => 0))), (q7, .inl (g.1, 5208, .inl (fun _ => 0)))]) := hD
  refine lv_aload_n hx hb dX4_init_67 rfl (lv_at hl 0 rfl) ?_
  refine lv_bipush (v := 60) hx hb dX4_init_68 (by decide) ?_
  refine va_newa (atype := .int) (ty := .int) (N' := 60) (a0 := (60, .inl (fun _ => 0))) hx hb (hts _ qa_int) rfl hK hP hD hS hA (fun _ => rfl) (by decide) (by decide) (Nat.le_of_ble_eq_true rfl) (Nat.le_of_ble_eq_true rfl) (Nat.le_of_ble_eq_true rfl) dX4_init_70 (fun q8 cA H hK1 hP hD hS => ?_)
  obtain rfl : cA = g.1 := g_clsI hK1
  have hP : va_P D vwCl ([(h0, .inr (4, [.ref q1, .ref q2, .ref q3, .ref q4, .ref q5, .ref q6, .ref q7, .null, .int 0, .int 0, .int 0])), (q1, .inl (g.1, 2600, .inl (fun _ => 0))), (q2, .inl (g.1, 2600, .inl (fun _ => 0))), (q3, .inl (g.1, 2600, .inl (fun _ => 0))), (q4, .inl (g.1, 2600, .inl (fun _ => 0))), (q5, .inl (g.1, 5208, .inl (fun _ => 0))), (q6, .inl (g.1, 5208, .inl (fun _ => 0))), (q7, .inl (g.1, 5208, .inl (fun _ => 0))), (q8, .inl (g.1, 60, .inl (fun _ => 0)))]) H := hP
  have hD : va_D A ([(h0, .inr (4, [.ref q1, .ref q2, .ref q3, .ref q4, .ref q5, .ref q6, .ref q7, .null, .int 0, .int 0, .int 0])), (q1, .inl (g.1, 2600, .inl (fun _ => 0))), (q2, .inl (g.1, 2600, .inl (fun _ => 0))), (q3, .inl (g.1, 2600, .inl (fun _ => 0))), (q4, .inl (g.1, 2600, .inl (fun _ => 0))), (q5, .inl (g.1, 5208, .inl (fun _ => 0))), (q6, .inl (g.1, 5208, .inl (fun _ => 0))), (q7, .inl (g.1, 5208, .inl (fun _ => 0))), (q8, .inl (g.1, 60, .inl (fun _ => 0)))]) := hD
  refine va_putF (D := D) (ci := 4) (v := .ref q8) (ty := .array .int) (C := RX4) (T := TX4) (N := 11) hx hb hts gu_4 tyX4 tyX4_ok nmX4 hown hK hP hD hS 0 rfl rfl 7 (by decide) (hts _ qp_X4_33) (fun _ h9 => h9) rfl hin rfl (by decide +kernel) rfl rfl (Nat.le_of_ble_eq_true rfl) dX4_init_72 (fun H locs hP hD hS => ?_)
  have hP : va_P D vwCl ([(h0, .inr (4, [.ref q1, .ref q2, .ref q3, .ref q4, .ref q5, .ref q6, .ref q7, .ref q8, .int 0, .int 0, .int 0])), (q1, .inl (g.1, 2600, .inl (fun _ => 0))), (q2, .inl (g.1, 2600, .inl (fun _ => 0))), (q3, .inl (g.1, 2600, .inl (fun _ => 0))), (q4, .inl (g.1, 2600, .inl (fun _ => 0))), (q5, .inl (g.1, 5208, .inl (fun _ => 0))), (q6, .inl (g.1, 5208, .inl (fun _ => 0))), (q7, .inl (g.1, 5208, .inl (fun _ => 0))), (q8, .inl (g.1, 60, .inl (fun _ => 0)))]) H := hP
  have hD : va_D A ([(h0, .inr (4, [.ref q1, .ref q2, .ref q3, .ref q4, .ref q5, .ref q6, .ref q7, .ref q8, .int 0, .int 0, .int 0])), (q1, .inl (g.1, 2600, .inl (fun _ => 0))), (q2, .inl (g.1, 2600, .inl (fun _ => 0))), (q3, .inl (g.1, 2600, .inl (fun _ => 0))), (q4, .inl (g.1, 2600, .inl (fun _ => 0))), (q5, .inl (g.1, 5208, .inl (fun _ => 0))), (q6, .inl (g.1, 5208, .inl (fun _ => 0))), (q7, .inl (g.1, 5208, .inl (fun _ => 0))), (q8, .inl (g.1, 60, .inl (fun _ => 0)))]) := hD
  have hfin : [(h0, .inr (4, [.ref q1, .ref q2, .ref q3, .ref q4, .ref q5, .ref q6, .ref q7, .ref q8, .int 0, .int 0, .int 0])), (q1, .inl (g.1, 2600, .inl (fun _ => 0))), (q2, .inl (g.1, 2600, .inl (fun _ => 0))), (q3, .inl (g.1, 2600, .inl (fun _ => 0))), (q4, .inl (g.1, 2600, .inl (fun _ => 0))), (q5, .inl (g.1, 5208, .inl (fun _ => 0))), (q6, .inl (g.1, 5208, .inl (fun _ => 0))), (q7, .inl (g.1, 5208, .inl (fun _ => 0))), (q8, .inl (g.1, 60, .inl (fun _ => 0)))] = gsl g (fun i => if i = 129 then h0 else if i = 130 then q1 else if i = 131 then q2 else if i = 132 then q3 else if i = 133 then q4 else if i = 134 then q5 else if i = 135 then q6 else if i = 136 then q7 else if i = 137 then q8 else 0) 129 9 := by
    generalize had : (fun i : Nat => if i = 129 then h0 else if i = 130 then q1 else if i = 131 then q2 else if i = 132 then q3 else if i = 133 then q4 else if i = 134 then q5 else if i = 135 then q6 else if i = 136 then q7 else if i = 137 then q8 else 0) = ad
    have f0 : ad 129 = h0 := by rw [← had]; rfl
    have f1 : ad 130 = q1 := by rw [← had]; rfl
    have f2 : ad 131 = q2 := by rw [← had]; rfl
    have f3 : ad 132 = q3 := by rw [← had]; rfl
    have f4 : ad 133 = q4 := by rw [← had]; rfl
    have f5 : ad 134 = q5 := by rw [← had]; rfl
    have f6 : ad 135 = q6 := by rw [← had]; rfl
    have f7 : ad 136 = q7 := by rw [← had]; rfl
    have f8 : ad 137 = q8 := by rw [← had]; rfl
    rw [show 9 = 9 from rfl]
    have e0 : gsl g ad 129 9 = [(h0, .inr (4, [.ref q1, .ref q2, .ref q3, .ref q4, .ref q5, .ref q6, .ref q7, .ref q8, .int 0, .int 0, .int 0])), (q1, .inl (g.1, 2600, .inl (fun _ => 0))), (q2, .inl (g.1, 2600, .inl (fun _ => 0))), (q3, .inl (g.1, 2600, .inl (fun _ => 0))), (q4, .inl (g.1, 2600, .inl (fun _ => 0))), (q5, .inl (g.1, 5208, .inl (fun _ => 0))), (q6, .inl (g.1, 5208, .inl (fun _ => 0))), (q7, .inl (g.1, 5208, .inl (fun _ => 0))), (q8, .inl (g.1, 60, .inl (fun _ => 0)))] := by
      show [(ad 129, g_ce g ad (g_ln (fun _ => 500) 129) (fun _ => 0) 129), (ad 130, g_ce g ad (g_ln (fun _ => 500) 130) (fun _ => 0) 130), (ad 131, g_ce g ad (g_ln (fun _ => 500) 131) (fun _ => 0) 131), (ad 132, g_ce g ad (g_ln (fun _ => 500) 132) (fun _ => 0) 132), (ad 133, g_ce g ad (g_ln (fun _ => 500) 133) (fun _ => 0) 133), (ad 134, g_ce g ad (g_ln (fun _ => 500) 134) (fun _ => 0) 134), (ad 135, g_ce g ad (g_ln (fun _ => 500) 135) (fun _ => 0) 135), (ad 136, g_ce g ad (g_ln (fun _ => 500) 136) (fun _ => 0) 136), (ad 137, g_ce g ad (g_ln (fun _ => 500) 137) (fun _ => 0) 137)] = _
      simp only [g_ce, Nat.reduceEqDiff, if_true, if_false, f0, f1, f2, f3, f4, f5, f6, f7, f8, g_ln, g_len, Nat.reduceLeDiff, Nat.reduceLT, and_self, and_true, true_and, false_and, and_false, or_self, or_false, false_or, reduceCtorEq]
    try simp only [Nat.reduceAdd]
    rw [e0]
  rw [hfin] at hP hD
  subst hAe
  exact W.vret hx hb hr (fun t ht hW => ⟨⟨_, rfl, rfl, by rw [ht]; exact hP, va_K.moved hW.alike hK, hD⟩, hS.F ht⟩) hS.2.2 dX4_init_75 hlocks
set_option maxHeartbeats 4000000 in
set_option maxRecDepth 100000 in
theorem kX1_init {l : Launch} {D : va_G} {g : gT} : gCt l yX1_init cX1_init 1 D g (.inr (1, [.null, .null, .null, .int 0])) 138 44 43 2520 := by
  intro h0 sz
  refine Met.ofW (cc := cX1_init) (maxL := 1) (ret := none) (by decide) rfl ?_
  intro p e s m args below meth c s₁ B hml hv
  obtain ⟨rfl, hsz, hP, hK, hD0, hNW⟩ := hv
  have hx := B.exec
  have hb := B.bytes
  have hr := B.returns
  have hts : ∀ w ∈ gtb, w.before #[Value.ref h0] s = true := fun w hw => atoms_spec (ws := g_ws yX1_init cX1_init 1 none) B.pre w (List.mem_cons_of_mem _ hw)
  have hown : s.vm.findClass RX1 = some m.cls := findClass_of_methodNamed B.named
  have hlocks := B.notSynchronized
  have hin : meth.name = "<init>" := (name_of_methodNamed B.named B.method).1
  subst hsz
  have hD := hD0.self (sz := s.heap.size)
  generalize hAe : va_A [(h0, (.inr (1, [.null, .null, .null, .int 0]) : va_E))] s.heap.size = A at hD ⊢
  have hA : ∀ q : Nat, s.heap.size ≤ q → A q := fun q h => by rw [← hAe]; exact Or.inr h
  have hS : va_S A s.heap s.heap [] := va_S.rf
  have hl := lv_entry ([.ref h0]) (n := 1) (Nat.le_of_ble_eq_true rfl)
  rw [lg_entry_eq]
  generalize (lg_sl ([.ref h0]) ++ List.replicate (1 - (lg_sl ([.ref h0])).length) Slot.unset).toArray = ls at hl ⊢
  have hl : lv_has ls 1 [(0, .ref h0)] := hl
  refine lv_aload_n hx hb dX1_init_0 rfl (lv_at hl 0 rfl) ?_
  refine W.objInit hx hb hown (hts _ qo_1) (hts _ qo_inst) (hts _ qo_code) rfl (by rw [hml]; exact hl.1) rfl dX1_init_1 (Nat.le_of_ble_eq_true rfl) (Nat.le_of_ble_eq_true rfl) ?_
  refine W.eq (g2 := F0 m 4 ls []) rfl ?_
  refine lv_aload_n hx hb dX1_init_4 rfl (lv_at hl 0 rfl) ?_
  refine lv_bipush (v := 40) hx hb dX1_init_5 (by decide) ?_
  refine va_newa (atype := .int) (ty := .int) (N' := 40) (a0 := (40, .inl (fun _ => 0))) hx hb (hts _ qa_int) rfl hK hP hD hS hA (fun _ => rfl) (by decide) (by decide) (Nat.le_of_ble_eq_true rfl) (Nat.le_of_ble_eq_true rfl) (Nat.le_of_ble_eq_true rfl) dX1_init_7 (fun q1 cA H hK1 hP hD hS => ?_)
  obtain rfl : cA = g.1 := g_clsI hK1
  have hP : va_P D vwCl ([(h0, .inr (1, [.null, .null, .null, .int 0])), (q1, .inl (g.1, 40, .inl (fun _ => 0)))]) H := hP
  have hD : va_D A ([(h0, .inr (1, [.null, .null, .null, .int 0])), (q1, .inl (g.1, 40, .inl (fun _ => 0)))]) := hD
  refine va_putF (D := D) (ci := 1) (v := .ref q1) (ty := .array .int) (C := RX1) (T := TX1) (N := 4) hx hb hts gu_1 tyX1 tyX1_ok nmX1 hown hK hP hD hS 0 rfl rfl 0 (by decide) (hts _ qp_X1_9) (fun _ h9 => h9) rfl hin rfl (by decide +kernel) rfl rfl (Nat.le_of_ble_eq_true rfl) dX1_init_9 (fun H locs hP hD hS => ?_)
  have hP : va_P D vwCl ([(h0, .inr (1, [.ref q1, .null, .null, .int 0])), (q1, .inl (g.1, 40, .inl (fun _ => 0)))]) H := hP
  have hD : va_D A ([(h0, .inr (1, [.ref q1, .null, .null, .int 0])), (q1, .inl (g.1, 40, .inl (fun _ => 0)))]) := hD
  refine lv_aload_n hx hb dX1_init_12 rfl (lv_at hl 0 rfl) ?_
  refine lv_bipush (v := 40) hx hb dX1_init_13 (by decide) ?_
  refine lv_bipush (v := 60) hx hb dX1_init_15 (by decide) ?_
  refine va_mna (X := [(h0, .inr (1, [.ref q1, .null, .null, .int 0])), (q1, .inl (g.1, 40, .inl (fun _ => 0)))]) (L := []) (f := fun _ => .inl (g.1, 0, .inl (fun _ => 0))) (ty := .int) (cy := g.1) (N' := 40) (K' := 60) (z := (60, .inl (fun _ => 0))) hx hb hown (hts _ qm2_X1_15) hNW.2 (hts _ qa_int) (hK.2 0 _ rfl).2 hK (by rw [show va_pl [] (fun _ => (.inl (g.1, 0, .inl (fun _ => 0)) : va_E)) = [] from rfl, List.append_nil]; exact hP) (by rw [show va_pl [] (fun _ => (.inl (g.1, 0, .inl (fun _ => 0)) : va_E)) = [] from rfl, List.append_nil]; exact hD) hS hA (by decide) (by decide) (by decide) (by decide) (Nat.le_of_ble_eq_true rfl) (Nat.le_of_ble_eq_true rfl) (Nat.le_of_ble_eq_true rfl) rfl rfl (Nat.le_of_ble_eq_true rfl) (Nat.le_of_ble_eq_true rfl) (fun c => rfl) dX1_init_17 (fun q2 r2 cA H _ _ hK1 hP hD hS => ?_)
  obtain rfl : cA = g.2 := g_clsO hK1
  rw [g_mnaRows] at hP hD
  have hP : va_P D vwCl (([(h0, .inr (1, [.ref q1, .null, .null, .int 0])), (q1, .inl (g.1, 40, .inl (fun _ => 0))), (q2, .inl (g.2, 40, .inr (.inr (.inr (.inr (fun i => if i < 40 then some (r2 i) else none))))))]) ++ g_rows r2 (.inl (g.1, 60, .inl (fun _ => 0)))) H := hP
  have hD : va_D A (([(h0, .inr (1, [.ref q1, .null, .null, .int 0])), (q1, .inl (g.1, 40, .inl (fun _ => 0))), (q2, .inl (g.2, 40, .inr (.inr (.inr (.inr (fun i => if i < 40 then some (r2 i) else none))))))]) ++ g_rows r2 (.inl (g.1, 60, .inl (fun _ => 0)))) := hD
  refine va_putF (D := D) (ci := 1) (v := .ref q2) (ty := .array (.array .int)) (C := RX1) (T := TX1) (N := 4) hx hb hts gu_1 tyX1 tyX1_ok nmX1 hown hK hP hD hS 0 rfl rfl 1 (by decide) (hts _ qp_X1_17) (fun _ h9 => h9) rfl hin rfl (by decide +kernel) rfl rfl (Nat.le_of_ble_eq_true rfl) dX1_init_21 (fun H locs hP hD hS => ?_)
  have hP : va_P D vwCl (([(h0, .inr (1, [.ref q1, .ref q2, .null, .int 0])), (q1, .inl (g.1, 40, .inl (fun _ => 0))), (q2, .inl (g.2, 40, .inr (.inr (.inr (.inr (fun i => if i < 40 then some (r2 i) else none))))))]) ++ g_rows r2 (.inl (g.1, 60, .inl (fun _ => 0)))) H := hP
  have hD : va_D A (([(h0, .inr (1, [.ref q1, .ref q2, .null, .int 0])), (q1, .inl (g.1, 40, .inl (fun _ => 0))), (q2, .inl (g.2, 40, .inr (.inr (.inr (.inr (fun i => if i < 40 then some (r2 i) else none))))))]) ++ g_rows r2 (.inl (g.1, 60, .inl (fun _ => 0)))) := hD
  refine lv_aload_n hx hb dX1_init_24 rfl (lv_at hl 0 rfl) ?_
  refine lv_bipush (v := 40) hx hb dX1_init_25 (by decide) ?_
  refine va_newa (atype := .int) (ty := .int) (N' := 40) (a0 := (40, .inl (fun _ => 0))) hx hb (hts _ qa_int) rfl hK hP hD hS hA (fun _ => rfl) (by decide) (by decide) (Nat.le_of_ble_eq_true rfl) (Nat.le_of_ble_eq_true rfl) (Nat.le_of_ble_eq_true rfl) dX1_init_27 (fun q3 cA H hK1 hP hD hS => ?_)
  obtain rfl : cA = g.1 := g_clsI hK1
  have hP : va_P D vwCl ((([(h0, .inr (1, [.ref q1, .ref q2, .null, .int 0])), (q1, .inl (g.1, 40, .inl (fun _ => 0))), (q2, .inl (g.2, 40, .inr (.inr (.inr (.inr (fun i => if i < 40 then some (r2 i) else none))))))]) ++ g_rows r2 (.inl (g.1, 60, .inl (fun _ => 0)))) ++ [(q3, .inl (g.1, 40, .inl (fun _ => 0)))]) H := hP
  have hD : va_D A ((([(h0, .inr (1, [.ref q1, .ref q2, .null, .int 0])), (q1, .inl (g.1, 40, .inl (fun _ => 0))), (q2, .inl (g.2, 40, .inr (.inr (.inr (.inr (fun i => if i < 40 then some (r2 i) else none))))))]) ++ g_rows r2 (.inl (g.1, 60, .inl (fun _ => 0)))) ++ [(q3, .inl (g.1, 40, .inl (fun _ => 0)))]) := hD
  refine va_putF (D := D) (ci := 1) (v := .ref q3) (ty := .array .int) (C := RX1) (T := TX1) (N := 4) hx hb hts gu_1 tyX1 tyX1_ok nmX1 hown hK hP hD hS 0 rfl rfl 2 (by decide) (hts _ qp_X1_20) (fun _ h9 => h9) rfl hin rfl (by decide +kernel) rfl rfl (Nat.le_of_ble_eq_true rfl) dX1_init_29 (fun H locs hP hD hS => ?_)
  have hP : va_P D vwCl ((([(h0, .inr (1, [.ref q1, .ref q2, .ref q3, .int 0])), (q1, .inl (g.1, 40, .inl (fun _ => 0))), (q2, .inl (g.2, 40, .inr (.inr (.inr (.inr (fun i => if i < 40 then some (r2 i) else none))))))]) ++ g_rows r2 (.inl (g.1, 60, .inl (fun _ => 0)))) ++ [(q3, .inl (g.1, 40, .inl (fun _ => 0)))]) H := hP
  have hD : va_D A ((([(h0, .inr (1, [.ref q1, .ref q2, .ref q3, .int 0])), (q1, .inl (g.1, 40, .inl (fun _ => 0))), (q2, .inl (g.2, 40, .inr (.inr (.inr (.inr (fun i => if i < 40 then some (r2 i) else none))))))]) ++ g_rows r2 (.inl (g.1, 60, .inl (fun _ => 0)))) ++ [(q3, .inl (g.1, 40, .inl (fun _ => 0)))]) := hD
  have hfin : (([(h0, .inr (1, [.ref q1, .ref q2, .ref q3, .int 0])), (q1, .inl (g.1, 40, .inl (fun _ => 0))), (q2, .inl (g.2, 40, .inr (.inr (.inr (.inr (fun i => if i < 40 then some (r2 i) else none))))))]) ++ g_rows r2 (.inl (g.1, 60, .inl (fun _ => 0)))) ++ [(q3, .inl (g.1, 40, .inl (fun _ => 0)))] = gsl g (fun i => if i = 138 then h0 else if i = 139 then q1 else if i = 140 then q2 else if i < 181 then r2 (i - 141) else if i = 181 then q3 else 0) 138 44 := by
    generalize had : (fun i : Nat => if i = 138 then h0 else if i = 139 then q1 else if i = 140 then q2 else if i < 181 then r2 (i - 141) else if i = 181 then q3 else 0) = ad
    have f0 : ad 138 = h0 := by rw [← had]; rfl
    have f1 : ad 139 = q1 := by rw [← had]; rfl
    have f2 : ad 140 = q2 := by rw [← had]; rfl
    have f3 : ∀ i, i < 40 → ad (141 + i) = r2 i := fun i hi => by
      rw [← had]
      show (if 141 + i = 138 then h0 else _) = _
      simp only [show ∀ z, z < 141 → (141 + i = z) = False from fun z hz => eq_false (by omega), show ∀ z, z ≤ 141 → (141 + i < z) = False from fun z hz => eq_false (by omega), show (141 + i < 181) = True from eq_true (by omega), if_true, if_false, Nat.add_sub_cancel_left, Nat.reduceLT, Nat.reduceLeDiff]
    have f4 : ad 181 = q3 := by rw [← had]; rfl
    rw [show 44 = ((3 + 40) + 1) from rfl]
    rw [gsl_app]
    rw [gsl_app]
    have e0 : gsl g ad 138 3 = [(h0, .inr (1, [.ref q1, .ref q2, .ref q3, .int 0])), (q1, .inl (g.1, 40, .inl (fun _ => 0))), (q2, .inl (g.2, 40, .inr (.inr (.inr (.inr (fun i => if i < 40 then some (r2 i) else none))))))] := by
      show [(ad 138, g_ce g ad (g_ln (fun _ => 500) 138) (fun _ => 0) 138), (ad 139, g_ce g ad (g_ln (fun _ => 500) 139) (fun _ => 0) 139), (ad 140, g_ce g ad (g_ln (fun _ => 500) 140) (fun _ => 0) 140)] = _
      simp only [g_ce, Nat.reduceEqDiff, if_true, if_false, f0, f1, f2, f4, g_out_r f3, g_ln, g_len, Nat.reduceLeDiff, Nat.reduceLT, and_self, and_true, true_and, false_and, and_false, or_self, or_false, false_or, reduceCtorEq]
    have e1 : gsl g ad 141 40 = g_rows r2 (.inl (g.1, 60, .inl (fun _ => 0))) := gsl_rows f3 (by decide +kernel)
    have e2 : gsl g ad 181 1 = [(q3, .inl (g.1, 40, .inl (fun _ => 0)))] := by
      show [(ad 181, g_ce g ad (g_ln (fun _ => 500) 181) (fun _ => 0) 181)] = _
      simp only [g_ce, Nat.reduceEqDiff, if_true, if_false, f0, f1, f2, f4, g_out_r f3, g_ln, g_len, Nat.reduceLeDiff, Nat.reduceLT, and_self, and_true, true_and, false_and, and_false, or_self, or_false, false_or, reduceCtorEq]
    try simp only [Nat.reduceAdd]
    rw [e0, e1, e2]
  rw [hfin] at hP hD
  subst hAe
  exact W.vret hx hb hr (fun t ht hW => ⟨⟨_, rfl, rfl, by rw [ht]; exact hP, va_K.moved hW.alike hK, hD⟩, hS.F ht⟩) hS.2.2 dX1_init_32 hlocks
set_option maxHeartbeats 4000000 in
set_option maxRecDepth 100000 in
theorem kX0_init {l : Launch} {D : va_G} {g : gT} : gCt l yX0_init cX0_init 2 D g (.inr (0, [.null, .null, .null, .int 0, .int 0])) 128 55 54 28679 := by
  intro h0 sz
  refine Met.ofW (cc := cX0_init) (maxL := 1) (ret := none) (by decide) rfl ?_
  intro p e s m args below meth c s₁ B hml hv
  obtain ⟨rfl, hsz, hP, hK, hD0, hNW⟩ := hv
  have hx := B.exec
  have hb := B.bytes
  have hr := B.returns
  have hts : ∀ w ∈ gtb, w.before #[Value.ref h0] s = true := fun w hw => atoms_spec (ws := g_ws yX0_init cX0_init 1 none) B.pre w (List.mem_cons_of_mem _ hw)
  have hown : s.vm.findClass RX0 = some m.cls := findClass_of_methodNamed B.named
  have hlocks := B.notSynchronized
  have hin : meth.name = "<init>" := (name_of_methodNamed B.named B.method).1
  subst hsz
  have hD := hD0.self (sz := s.heap.size)
  generalize hAe : va_A [(h0, (.inr (0, [.null, .null, .null, .int 0, .int 0]) : va_E))] s.heap.size = A at hD ⊢
  have hA : ∀ q : Nat, s.heap.size ≤ q → A q := fun q h => by rw [← hAe]; exact Or.inr h
  have hS : va_S A s.heap s.heap [] := va_S.rf
  have hl := lv_entry ([.ref h0]) (n := 1) (Nat.le_of_ble_eq_true rfl)
  rw [lg_entry_eq]
  generalize (lg_sl ([.ref h0]) ++ List.replicate (1 - (lg_sl ([.ref h0])).length) Slot.unset).toArray = ls at hl ⊢
  have hl : lv_has ls 1 [(0, .ref h0)] := hl
  refine lv_aload_n hx hb dX0_init_0 rfl (lv_at hl 0 rfl) ?_
  refine W.objInit hx hb hown (hts _ qo_0) (hts _ qo_inst) (hts _ qo_code) rfl (by rw [hml]; exact hl.1) rfl dX0_init_1 (Nat.le_of_ble_eq_true rfl) (Nat.le_of_ble_eq_true rfl) ?_
  refine W.eq (g2 := F0 m 4 ls []) rfl ?_
  refine lv_aload_n hx hb dX0_init_4 rfl (lv_at hl 0 rfl) ?_
  refine va_new (ci := 4) (fs := [.null, .null, .null, .null, .null, .null, .null, .null, .int 0, .int 0, .int 0]) (C := RX4) (T := TX4) (N := 11) hx hb hts gu_4 tyX4 tyX4_ok hown (hts _ qi_cl_4) (hts _ qi_mk_4) (hts _ qi_ini_4) hK hP hD hS hA rfl (fun j hj => by rcases (show j = 0 ∨ j = 1 ∨ j = 2 ∨ j = 3 ∨ j = 4 ∨ j = 5 ∨ j = 6 ∨ j = 7 ∨ j = 8 ∨ j = 9 ∨ j = 10 by omega) with rfl | rfl | rfl | rfl | rfl | rfl | rfl | rfl | rfl | rfl | rfl <;> rfl) (Nat.le_of_ble_eq_true rfl) (Nat.le_of_ble_eq_true rfl) dX0_init_5 (fun q1 H hP hD hS => ?_)
  refine lv_dup hx hb dX0_init_8 rfl ?_
  have hP : va_P D vwCl (([(h0, .inr (0, [.null, .null, .null, .int 0, .int 0]))]) ++ [(q1, .inr (4, [.null, .null, .null, .null, .null, .null, .null, .null, .int 0, .int 0, .int 0]))]) H := hP
  have hD : va_D A (([(h0, .inr (0, [.null, .null, .null, .int 0, .int 0]))]) ++ [(q1, .inr (4, [.null, .null, .null, .null, .null, .null, .null, .null, .int 0, .int 0, .int 0]))]) := hD
  have hPc : va_P D vwCl [(q1, .inr (4, [.null, .null, .null, .null, .null, .null, .null, .null, .int 0, .int 0, .int 0]))] H := fun k z hz => hP (([(h0, .inr (0, [.null, .null, .null, .int 0, .int 0]))] : va_W).length + k) z (by rw [List.getElem?_append_right (Nat.le_add_right _ _), Nat.add_sub_cancel_left]; exact hz)
  have hDc : va_D (fun _ => True) [(q1, .inr (4, [.null, .null, .null, .null, .null, .null, .null, .null, .int 0, .int 0, .int 0]))] := ⟨fun i j p z h1 h2 _ => by have a1 := (List.getElem?_eq_some_iff.mp h1).1; have a2 := (List.getElem?_eq_some_iff.mp h2).1; simp at a1 a2; omega, fun _ _ _ => trivial⟩
  have hFc : ∀ z, va_A [(q1, .inr (4, [.null, .null, .null, .null, .null, .null, .null, .null, .int 0, .int 0, .int 0]))] H.size z → A z := fun z hz => by
    rcases hz with ⟨k, e2, h⟩ | h
    · exact hD.2 (([(h0, .inr (0, [.null, .null, .null, .int 0, .int 0]))] : va_W).length + k) (z, e2) (by rw [List.getElem?_append_right (Nat.le_add_right _ _), Nat.add_sub_cancel_left]; exact h)
    · exact hA z (Nat.le_trans hS.1 h)
  refine va_callv (va_runIN (b := q1) (As := []) (rest := [.ref q1, .ref h0]) ⟨hx, hb, hml, hown, hts⟩ (kX4_init q1 H.size) ⟨va_cnB 0 hts (g_inL qi_code_4) rfl rfl rfl (hNW.1 _ (by decide +kernel) : va_Nw (.methodLinkNest RX0 11 yX4_init RX5) s) (hts _ qi_ini_4) ⟨by decide, by decide, by decide +kernel⟩ ⟨Nat.le_of_ble_eq_true rfl, Nat.le_of_ble_eq_true rfl⟩, rfl, hts _ qi_im_4⟩ ⟨g_blindC, fun U hU hW => ⟨rfl, by rw [hU], by rw [hU]; exact hPc, va_K.moved hW.alike hK, hDc, hNW.warm hW⟩⟩ rfl rfl hl.1 rfl (Nat.le_of_ble_eq_true rfl) dX0_init_9 ⟨Nat.le_of_ble_eq_true rfl, Nat.le_of_ble_eq_true rfl⟩) hS (fun z _ h => hFc z h) hFc (fun ad2 t H1 locs1 ht hvm hw2 hB hz1 hk1 hS => ?_)
  obtain ⟨hP1, hK1, hD1⟩ := hB
  rw [ht] at hP1
  obtain ⟨hP, hD⟩ := g_joinC (w0 := [(h0, .inr (0, [.null, .null, .null, .int 0, .int 0]))]) hP hD hk1 hFc hP1 hD1
  generalize H1 = H at hP hS ⊢
  have hP : va_P D vwCl (([(h0, .inr (0, [.null, .null, .null, .int 0, .int 0]))]) ++ gsl g ad2 129 9) H := hP
  have hD : va_D A (([(h0, .inr (0, [.null, .null, .null, .int 0, .int 0]))]) ++ gsl g ad2 129 9) := hD
  refine va_putF (D := D) (ci := 0) (v := .ref q1) (ty := .object "GearTypes$Types") (C := RX0) (T := TX0) (N := 5) hx hb hts gu_0 tyX0 tyX0_ok nmX0 hown hK hP hD hS 0 rfl rfl 0 (by decide) (hts _ qp_X0_12) (fun _ h9 => h9) rfl hin rfl (by decide +kernel) rfl rfl (Nat.le_of_ble_eq_true rfl) dX0_init_12 (fun H locs hP hD hS => ?_)
  have hP : va_P D vwCl (([(h0, .inr (0, [.ref q1, .null, .null, .int 0, .int 0]))]) ++ gsl g ad2 129 9) H := hP
  have hD : va_D A (([(h0, .inr (0, [.ref q1, .null, .null, .int 0, .int 0]))]) ++ gsl g ad2 129 9) := hD
  refine lv_aload_n hx hb dX0_init_15 rfl (lv_at hl 0 rfl) ?_
  refine va_new (ci := 1) (fs := [.null, .null, .null, .int 0]) (C := RX1) (T := TX1) (N := 4) hx hb hts gu_1 tyX1 tyX1_ok hown (hts _ qi_cl_1) (hts _ qi_mk_1) (hts _ qi_ini_1) hK hP hD hS hA rfl (fun j hj => by rcases (show j = 0 ∨ j = 1 ∨ j = 2 ∨ j = 3 by omega) with rfl | rfl | rfl | rfl <;> rfl) (Nat.le_of_ble_eq_true rfl) (Nat.le_of_ble_eq_true rfl) dX0_init_16 (fun q3 H hP hD hS => ?_)
  refine lv_dup hx hb dX0_init_19 rfl ?_
  have hP : va_P D vwCl ((([(h0, .inr (0, [.ref q1, .null, .null, .int 0, .int 0]))]) ++ gsl g ad2 129 9) ++ [(q3, .inr (1, [.null, .null, .null, .int 0]))]) H := hP
  have hD : va_D A ((([(h0, .inr (0, [.ref q1, .null, .null, .int 0, .int 0]))]) ++ gsl g ad2 129 9) ++ [(q3, .inr (1, [.null, .null, .null, .int 0]))]) := hD
  have hPc : va_P D vwCl [(q3, .inr (1, [.null, .null, .null, .int 0]))] H := fun k z hz => hP ((([(h0, .inr (0, [.ref q1, .null, .null, .int 0, .int 0]))]) ++ gsl g ad2 129 9 : va_W).length + k) z (by rw [List.getElem?_append_right (Nat.le_add_right _ _), Nat.add_sub_cancel_left]; exact hz)
  have hDc : va_D (fun _ => True) [(q3, .inr (1, [.null, .null, .null, .int 0]))] := ⟨fun i j p z h1 h2 _ => by have a1 := (List.getElem?_eq_some_iff.mp h1).1; have a2 := (List.getElem?_eq_some_iff.mp h2).1; simp at a1 a2; omega, fun _ _ _ => trivial⟩
  have hFc : ∀ z, va_A [(q3, .inr (1, [.null, .null, .null, .int 0]))] H.size z → A z := fun z hz => by
    rcases hz with ⟨k, e2, h⟩ | h
    · exact hD.2 ((([(h0, .inr (0, [.ref q1, .null, .null, .int 0, .int 0]))]) ++ gsl g ad2 129 9 : va_W).length + k) (z, e2) (by rw [List.getElem?_append_right (Nat.le_add_right _ _), Nat.add_sub_cancel_left]; exact h)
    · exact hA z (Nat.le_trans hS.1 h)
  refine va_callv (va_runIN (b := q3) (As := []) (rest := [.ref q3, .ref h0]) ⟨hx, hb, hml, hown, hts⟩ (kX1_init q3 H.size) ⟨va_cnB 0 hts (g_inL qi_code_1) rfl rfl rfl (hNW.1 _ (by decide +kernel) : va_Nw (.methodLinkNest RX0 20 yX1_init RX5) s) (hts _ qi_ini_1) ⟨by decide, by decide, by decide +kernel⟩ ⟨Nat.le_of_ble_eq_true rfl, Nat.le_of_ble_eq_true rfl⟩, rfl, hts _ qi_im_1⟩ ⟨g_blindC, fun U hU hW => ⟨rfl, by rw [hU], by rw [hU]; exact hPc, va_K.moved hW.alike hK, hDc, hNW.warm hW⟩⟩ rfl rfl hl.1 rfl (Nat.le_of_ble_eq_true rfl) dX0_init_20 ⟨Nat.le_of_ble_eq_true rfl, Nat.le_of_ble_eq_true rfl⟩) hS (fun z _ h => hFc z h) hFc (fun ad4 t H1 locs1 ht hvm hw4 hB hz1 hk1 hS => ?_)
  obtain ⟨hP1, hK1, hD1⟩ := hB
  rw [ht] at hP1
  obtain ⟨hP, hD⟩ := g_joinC (w0 := ([(h0, .inr (0, [.ref q1, .null, .null, .int 0, .int 0]))]) ++ gsl g ad2 129 9) hP hD hk1 hFc hP1 hD1
  generalize H1 = H at hP hS ⊢
  have hP : va_P D vwCl ((([(h0, .inr (0, [.ref q1, .null, .null, .int 0, .int 0]))]) ++ gsl g ad2 129 9) ++ gsl g ad4 138 44) H := hP
  have hD : va_D A ((([(h0, .inr (0, [.ref q1, .null, .null, .int 0, .int 0]))]) ++ gsl g ad2 129 9) ++ gsl g ad4 138 44) := hD
  refine va_putF (D := D) (ci := 0) (v := .ref q3) (ty := .object "GearTypes$Names") (C := RX0) (T := TX0) (N := 5) hx hb hts gu_0 tyX0 tyX0_ok nmX0 hown hK hP hD hS 0 rfl rfl 1 (by decide) (hts _ qp_X0_21) (fun _ h9 => h9) rfl hin rfl (by decide +kernel) rfl rfl (Nat.le_of_ble_eq_true rfl) dX0_init_23 (fun H locs hP hD hS => ?_)
  have hP : va_P D vwCl ((([(h0, .inr (0, [.ref q1, .ref q3, .null, .int 0, .int 0]))]) ++ gsl g ad2 129 9) ++ gsl g ad4 138 44) H := hP
  have hD : va_D A ((([(h0, .inr (0, [.ref q1, .ref q3, .null, .int 0, .int 0]))]) ++ gsl g ad2 129 9) ++ gsl g ad4 138 44) := hD
  refine lv_aload_n hx hb dX0_init_26 rfl (lv_at hl 0 rfl) ?_
  refine lv_bipush (v := 60) hx hb dX0_init_27 (by decide) ?_
  refine va_newa (atype := .int) (ty := .int) (N' := 60) (a0 := (60, .inl (fun _ => 0))) hx hb (hts _ qa_int) rfl hK hP hD hS hA (fun _ => rfl) (by decide) (by decide) (Nat.le_of_ble_eq_true rfl) (Nat.le_of_ble_eq_true rfl) (Nat.le_of_ble_eq_true rfl) dX0_init_29 (fun q5 cA H hK1 hP hD hS => ?_)
  obtain rfl : cA = g.1 := g_clsI hK1
  have hP : va_P D vwCl (((([(h0, .inr (0, [.ref q1, .ref q3, .null, .int 0, .int 0]))]) ++ gsl g ad2 129 9) ++ gsl g ad4 138 44) ++ [(q5, .inl (g.1, 60, .inl (fun _ => 0)))]) H := hP
  have hD : va_D A (((([(h0, .inr (0, [.ref q1, .ref q3, .null, .int 0, .int 0]))]) ++ gsl g ad2 129 9) ++ gsl g ad4 138 44) ++ [(q5, .inl (g.1, 60, .inl (fun _ => 0)))]) := hD
  refine va_putF (D := D) (ci := 0) (v := .ref q5) (ty := .array .int) (C := RX0) (T := TX0) (N := 5) hx hb hts gu_0 tyX0 tyX0_ok nmX0 hown hK hP hD hS 0 rfl rfl 2 (by decide) (hts _ qp_X0_25) (fun _ h9 => h9) rfl hin rfl (by decide +kernel) rfl rfl (Nat.le_of_ble_eq_true rfl) dX0_init_31 (fun H locs hP hD hS => ?_)
  have hP : va_P D vwCl (((([(h0, .inr (0, [.ref q1, .ref q3, .ref q5, .int 0, .int 0]))]) ++ gsl g ad2 129 9) ++ gsl g ad4 138 44) ++ [(q5, .inl (g.1, 60, .inl (fun _ => 0)))]) H := hP
  have hD : va_D A (((([(h0, .inr (0, [.ref q1, .ref q3, .ref q5, .int 0, .int 0]))]) ++ gsl g ad2 129 9) ++ gsl g ad4 138 44) ++ [(q5, .inl (g.1, 60, .inl (fun _ => 0)))]) := hD
  have hfin : ((([(h0, .inr (0, [.ref q1, .ref q3, .ref q5, .int 0, .int 0]))]) ++ gsl g ad2 129 9) ++ gsl g ad4 138 44) ++ [(q5, .inl (g.1, 60, .inl (fun _ => 0)))] = gsl g (fun i => if i = 128 then h0 else if i < 138 then ad2 i else if i < 182 then ad4 i else if i = 182 then q5 else 0) 128 55 := by
    generalize had : (fun i : Nat => if i = 128 then h0 else if i < 138 then ad2 i else if i < 182 then ad4 i else if i = 182 then q5 else 0) = ad
    have f0 : ad 128 = h0 := by rw [← had]; rfl
    have f1 : ∀ i, 129 ≤ i → i < 138 → ad i = ad2 i := fun i h1 h2 => by
      rw [← had]
      simp only [show ∀ z, z < 129 → (i = z) = False from fun z hz => eq_false (by omega), show ∀ z, z ≤ 129 → (i < z) = False from fun z hz => eq_false (by omega), show (i < 138) = True from eq_true (by omega), if_true, if_false, Nat.reduceLT, Nat.reduceLeDiff]
    have f2 : ∀ i, 138 ≤ i → i < 182 → ad i = ad4 i := fun i h1 h2 => by
      rw [← had]
      simp only [show ∀ z, z < 138 → (i = z) = False from fun z hz => eq_false (by omega), show ∀ z, z ≤ 138 → (i < z) = False from fun z hz => eq_false (by omega), show (i < 182) = True from eq_true (by omega), if_true, if_false, Nat.reduceLT, Nat.reduceLeDiff]
    have f3 : ad 182 = q5 := by rw [← had]; rfl
    rw [show 55 = (((1 + 9) + 44) + 1) from rfl]
    rw [gsl_app]
    rw [gsl_app]
    rw [gsl_app]
    have e0 : gsl g ad 128 1 = [(h0, .inr (0, [.ref q1, .ref q3, .ref q5, .int 0, .int 0]))] := by
      show [(ad 128, g_ce g ad (g_ln (fun _ => 500) 128) (fun _ => 0) 128)] = _
      simp only [g_ce, Nat.reduceEqDiff, if_true, if_false, f0, f3, f1 129 (by omega) (by omega), hw2, f2 138 (by omega) (by omega), hw4, g_ln, g_len, Nat.reduceLeDiff, Nat.reduceLT, and_self, and_true, true_and, false_and, and_false, or_self, or_false, false_or, reduceCtorEq]
    have e1 : gsl g ad 129 9 = gsl g ad2 129 9 := gsl_cg (hi := 138) (by omega) rfl f1
    have e2 : gsl g ad 138 44 = gsl g ad4 138 44 := gsl_cg (hi := 182) (by omega) rfl f2
    have e3 : gsl g ad 182 1 = [(q5, .inl (g.1, 60, .inl (fun _ => 0)))] := by
      show [(ad 182, g_ce g ad (g_ln (fun _ => 500) 182) (fun _ => 0) 182)] = _
      simp only [g_ce, Nat.reduceEqDiff, if_true, if_false, f0, f3, f1 129 (by omega) (by omega), hw2, f2 138 (by omega) (by omega), hw4, g_ln, g_len, Nat.reduceLeDiff, Nat.reduceLT, and_self, and_true, true_and, false_and, and_false, or_self, or_false, false_or, reduceCtorEq]
    try simp only [Nat.reduceAdd]
    rw [e0, e1, e2, e3]
  rw [hfin] at hP hD
  subst hAe
  exact W.vret hx hb hr (fun t ht hW => ⟨⟨_, rfl, rfl, by rw [ht]; exact hP, va_K.moved hW.alike hK, hD⟩, hS.F ht⟩) hS.2.2 dX0_init_34 hlocks
set_option maxHeartbeats 4000000 in
set_option maxRecDepth 100000 in
theorem kX5_init {l : Launch} {D : va_G} {g : gT} : gCt l yX5_init cX5_init 3 D g (.inr (5, [.null, .null, .null])) 0 183 182 31810 := by
  intro h0 sz
  refine Met.ofW (cc := cX5_init) (maxL := 1) (ret := none) (by decide) rfl ?_
  intro p e s m args below meth c s₁ B hml hv
  obtain ⟨rfl, hsz, hP, hK, hD0, hNW⟩ := hv
  have hx := B.exec
  have hb := B.bytes
  have hr := B.returns
  have hts : ∀ w ∈ gtb, w.before #[Value.ref h0] s = true := fun w hw => atoms_spec (ws := g_ws yX5_init cX5_init 1 none) B.pre w (List.mem_cons_of_mem _ hw)
  have hown : s.vm.findClass RX5 = some m.cls := findClass_of_methodNamed B.named
  have hlocks := B.notSynchronized
  have hin : meth.name = "<init>" := (name_of_methodNamed B.named B.method).1
  subst hsz
  have hD := hD0.self (sz := s.heap.size)
  generalize hAe : va_A [(h0, (.inr (5, [.null, .null, .null]) : va_E))] s.heap.size = A at hD ⊢
  have hA : ∀ q : Nat, s.heap.size ≤ q → A q := fun q h => by rw [← hAe]; exact Or.inr h
  have hS : va_S A s.heap s.heap [] := va_S.rf
  have hl := lv_entry ([.ref h0]) (n := 1) (Nat.le_of_ble_eq_true rfl)
  rw [lg_entry_eq]
  generalize (lg_sl ([.ref h0]) ++ List.replicate (1 - (lg_sl ([.ref h0])).length) Slot.unset).toArray = ls at hl ⊢
  have hl : lv_has ls 1 [(0, .ref h0)] := hl
  refine lv_aload_n hx hb dX5_init_0 rfl (lv_at hl 0 rfl) ?_
  refine W.objInit hx hb hown (hts _ qo_5) (hts _ qo_inst) (hts _ qo_code) rfl (by rw [hml]; exact hl.1) rfl dX5_init_1 (Nat.le_of_ble_eq_true rfl) (Nat.le_of_ble_eq_true rfl) ?_
  refine W.eq (g2 := F0 m 4 ls []) rfl ?_
  refine lv_aload_n hx hb dX5_init_4 rfl (lv_at hl 0 rfl) ?_
  refine va_new (ci := 2) (fs := [.null, .int 0]) (C := RX2) (T := TX2) (N := 2) hx hb hts gu_2 tyX2 tyX2_ok hown (hts _ qi_cl_2) (hts _ qi_mk_2) (hts _ qi_ini_2) hK hP hD hS hA rfl (fun j hj => by rcases (show j = 0 ∨ j = 1 by omega) with rfl | rfl <;> rfl) (Nat.le_of_ble_eq_true rfl) (Nat.le_of_ble_eq_true rfl) dX5_init_5 (fun q1 H hP hD hS => ?_)
  refine lv_dup hx hb dX5_init_8 rfl ?_
  have hP : va_P D vwCl (([(h0, .inr (5, [.null, .null, .null]))]) ++ [(q1, .inr (2, [.null, .int 0]))]) H := hP
  have hD : va_D A (([(h0, .inr (5, [.null, .null, .null]))]) ++ [(q1, .inr (2, [.null, .int 0]))]) := hD
  have hPc : va_P D vwCl [(q1, .inr (2, [.null, .int 0]))] H := fun k z hz => hP (([(h0, .inr (5, [.null, .null, .null]))] : va_W).length + k) z (by rw [List.getElem?_append_right (Nat.le_add_right _ _), Nat.add_sub_cancel_left]; exact hz)
  have hDc : va_D (fun _ => True) [(q1, .inr (2, [.null, .int 0]))] := ⟨fun i j p z h1 h2 _ => by have a1 := (List.getElem?_eq_some_iff.mp h1).1; have a2 := (List.getElem?_eq_some_iff.mp h2).1; simp at a1 a2; omega, fun _ _ _ => trivial⟩
  have hFc : ∀ z, va_A [(q1, .inr (2, [.null, .int 0]))] H.size z → A z := fun z hz => by
    rcases hz with ⟨k, e2, h⟩ | h
    · exact hD.2 (([(h0, .inr (5, [.null, .null, .null]))] : va_W).length + k) (z, e2) (by rw [List.getElem?_append_right (Nat.le_add_right _ _), Nat.add_sub_cancel_left]; exact h)
    · exact hA z (Nat.le_trans hS.1 h)
  refine va_callv (va_runIN (b := q1) (As := []) (rest := [.ref q1, .ref h0]) ⟨hx, hb, hml, hown, hts⟩ (kX2_init q1 H.size) ⟨va_cnB 0 hts (g_inL qi_code_2) rfl rfl rfl (hNW.1 _ (by decide +kernel) : va_Nw (.methodLinkNest RX5 9 yX2_init RX5) s) (hts _ qi_ini_2) ⟨by decide, by decide, by decide +kernel⟩ ⟨Nat.le_of_ble_eq_true rfl, Nat.le_of_ble_eq_true rfl⟩, rfl, hts _ qi_im_2⟩ ⟨g_blindC, fun U hU hW => ⟨rfl, by rw [hU], by rw [hU]; exact hPc, va_K.moved hW.alike hK, hDc, hNW.warm hW⟩⟩ rfl rfl hl.1 rfl (Nat.le_of_ble_eq_true rfl) dX5_init_9 ⟨Nat.le_of_ble_eq_true rfl, Nat.le_of_ble_eq_true rfl⟩) hS (fun z _ h => hFc z h) hFc (fun ad2 t H1 locs1 ht hvm hw2 hB hz1 hk1 hS => ?_)
  obtain ⟨hP1, hK1, hD1⟩ := hB
  rw [ht] at hP1
  obtain ⟨hP, hD⟩ := g_joinC (w0 := [(h0, .inr (5, [.null, .null, .null]))]) hP hD hk1 hFc hP1 hD1
  generalize H1 = H at hP hS ⊢
  have hP : va_P D vwCl (([(h0, .inr (5, [.null, .null, .null]))]) ++ gsl g ad2 1 42) H := hP
  have hD : va_D A (([(h0, .inr (5, [.null, .null, .null]))]) ++ gsl g ad2 1 42) := hD
  refine va_putF (D := D) (ci := 5) (v := .ref q1) (ty := .object "GearTypes$Parts") (C := RX5) (T := TX5) (N := 3) hx hb hts gu_5 tyX5 tyX5_ok nmX5 hown hK hP hD hS 0 rfl rfl 0 (by decide) (hts _ qp_X5_10) (fun _ h9 => h9) rfl hin rfl (by decide +kernel) rfl rfl (Nat.le_of_ble_eq_true rfl) dX5_init_12 (fun H locs hP hD hS => ?_)
  have hP : va_P D vwCl (([(h0, .inr (5, [.ref q1, .null, .null]))]) ++ gsl g ad2 1 42) H := hP
  have hD : va_D A (([(h0, .inr (5, [.ref q1, .null, .null]))]) ++ gsl g ad2 1 42) := hD
  refine lv_aload_n hx hb dX5_init_15 rfl (lv_at hl 0 rfl) ?_
  refine va_new (ci := 3) (fs := [.null, .null, .null, .null]) (C := RX3) (T := TX3) (N := 4) hx hb hts gu_3 tyX3 tyX3_ok hown (hts _ qi_cl_3) (hts _ qi_mk_3) (hts _ qi_ini_3) hK hP hD hS hA rfl (fun j hj => by rcases (show j = 0 ∨ j = 1 ∨ j = 2 ∨ j = 3 by omega) with rfl | rfl | rfl | rfl <;> rfl) (Nat.le_of_ble_eq_true rfl) (Nat.le_of_ble_eq_true rfl) dX5_init_16 (fun q3 H hP hD hS => ?_)
  refine lv_dup hx hb dX5_init_19 rfl ?_
  have hP : va_P D vwCl ((([(h0, .inr (5, [.ref q1, .null, .null]))]) ++ gsl g ad2 1 42) ++ [(q3, .inr (3, [.null, .null, .null, .null]))]) H := hP
  have hD : va_D A ((([(h0, .inr (5, [.ref q1, .null, .null]))]) ++ gsl g ad2 1 42) ++ [(q3, .inr (3, [.null, .null, .null, .null]))]) := hD
  have hPc : va_P D vwCl [(q3, .inr (3, [.null, .null, .null, .null]))] H := fun k z hz => hP ((([(h0, .inr (5, [.ref q1, .null, .null]))]) ++ gsl g ad2 1 42 : va_W).length + k) z (by rw [List.getElem?_append_right (Nat.le_add_right _ _), Nat.add_sub_cancel_left]; exact hz)
  have hDc : va_D (fun _ => True) [(q3, .inr (3, [.null, .null, .null, .null]))] := ⟨fun i j p z h1 h2 _ => by have a1 := (List.getElem?_eq_some_iff.mp h1).1; have a2 := (List.getElem?_eq_some_iff.mp h2).1; simp at a1 a2; omega, fun _ _ _ => trivial⟩
  have hFc : ∀ z, va_A [(q3, .inr (3, [.null, .null, .null, .null]))] H.size z → A z := fun z hz => by
    rcases hz with ⟨k, e2, h⟩ | h
    · exact hD.2 ((([(h0, .inr (5, [.ref q1, .null, .null]))]) ++ gsl g ad2 1 42 : va_W).length + k) (z, e2) (by rw [List.getElem?_append_right (Nat.le_add_right _ _), Nat.add_sub_cancel_left]; exact h)
    · exact hA z (Nat.le_trans hS.1 h)
  refine va_callv (va_runIN (b := q3) (As := []) (rest := [.ref q3, .ref h0]) ⟨hx, hb, hml, hown, hts⟩ (kX3_init q3 H.size) ⟨va_cnB 0 hts (g_inL qi_code_3) rfl rfl rfl (hNW.1 _ (by decide +kernel) : va_Nw (.methodLinkNest RX5 18 yX3_init RX5) s) (hts _ qi_ini_3) ⟨by decide, by decide, by decide +kernel⟩ ⟨Nat.le_of_ble_eq_true rfl, Nat.le_of_ble_eq_true rfl⟩, rfl, hts _ qi_im_3⟩ ⟨g_blindC, fun U hU hW => ⟨rfl, by rw [hU], by rw [hU]; exact hPc, va_K.moved hW.alike hK, hDc, hNW.warm hW⟩⟩ rfl rfl hl.1 rfl (Nat.le_of_ble_eq_true rfl) dX5_init_20 ⟨Nat.le_of_ble_eq_true rfl, Nat.le_of_ble_eq_true rfl⟩) hS (fun z _ h => hFc z h) hFc (fun ad4 t H1 locs1 ht hvm hw4 hB hz1 hk1 hS => ?_)
  obtain ⟨hP1, hK1, hD1⟩ := hB
  rw [ht] at hP1
  obtain ⟨hP, hD⟩ := g_joinC (w0 := ([(h0, .inr (5, [.ref q1, .null, .null]))]) ++ gsl g ad2 1 42) hP hD hk1 hFc hP1 hD1
  generalize H1 = H at hP hS ⊢
  have hP : va_P D vwCl ((([(h0, .inr (5, [.ref q1, .null, .null]))]) ++ gsl g ad2 1 42) ++ gsl g ad4 43 85) H := hP
  have hD : va_D A ((([(h0, .inr (5, [.ref q1, .null, .null]))]) ++ gsl g ad2 1 42) ++ gsl g ad4 43 85) := hD
  refine va_putF (D := D) (ci := 5) (v := .ref q3) (ty := .object "GearTypes$Rows") (C := RX5) (T := TX5) (N := 3) hx hb hts gu_5 tyX5 tyX5_ok nmX5 hown hK hP hD hS 0 rfl rfl 1 (by decide) (hts _ qp_X5_19) (fun _ h9 => h9) rfl hin rfl (by decide +kernel) rfl rfl (Nat.le_of_ble_eq_true rfl) dX5_init_23 (fun H locs hP hD hS => ?_)
  have hP : va_P D vwCl ((([(h0, .inr (5, [.ref q1, .ref q3, .null]))]) ++ gsl g ad2 1 42) ++ gsl g ad4 43 85) H := hP
  have hD : va_D A ((([(h0, .inr (5, [.ref q1, .ref q3, .null]))]) ++ gsl g ad2 1 42) ++ gsl g ad4 43 85) := hD
  refine lv_aload_n hx hb dX5_init_26 rfl (lv_at hl 0 rfl) ?_
  refine va_new (ci := 0) (fs := [.null, .null, .null, .int 0, .int 0]) (C := RX0) (T := TX0) (N := 5) hx hb hts gu_0 tyX0 tyX0_ok hown (hts _ qi_cl_0) (hts _ qi_mk_0) (hts _ qi_ini_0) hK hP hD hS hA rfl (fun j hj => by rcases (show j = 0 ∨ j = 1 ∨ j = 2 ∨ j = 3 ∨ j = 4 by omega) with rfl | rfl | rfl | rfl | rfl <;> rfl) (Nat.le_of_ble_eq_true rfl) (Nat.le_of_ble_eq_true rfl) dX5_init_27 (fun q5 H hP hD hS => ?_)
  refine lv_dup hx hb dX5_init_30 rfl ?_
  have hP : va_P D vwCl (((([(h0, .inr (5, [.ref q1, .ref q3, .null]))]) ++ gsl g ad2 1 42) ++ gsl g ad4 43 85) ++ [(q5, .inr (0, [.null, .null, .null, .int 0, .int 0]))]) H := hP
  have hD : va_D A (((([(h0, .inr (5, [.ref q1, .ref q3, .null]))]) ++ gsl g ad2 1 42) ++ gsl g ad4 43 85) ++ [(q5, .inr (0, [.null, .null, .null, .int 0, .int 0]))]) := hD
  have hPc : va_P D vwCl [(q5, .inr (0, [.null, .null, .null, .int 0, .int 0]))] H := fun k z hz => hP (((([(h0, .inr (5, [.ref q1, .ref q3, .null]))]) ++ gsl g ad2 1 42) ++ gsl g ad4 43 85 : va_W).length + k) z (by rw [List.getElem?_append_right (Nat.le_add_right _ _), Nat.add_sub_cancel_left]; exact hz)
  have hDc : va_D (fun _ => True) [(q5, .inr (0, [.null, .null, .null, .int 0, .int 0]))] := ⟨fun i j p z h1 h2 _ => by have a1 := (List.getElem?_eq_some_iff.mp h1).1; have a2 := (List.getElem?_eq_some_iff.mp h2).1; simp at a1 a2; omega, fun _ _ _ => trivial⟩
  have hFc : ∀ z, va_A [(q5, .inr (0, [.null, .null, .null, .int 0, .int 0]))] H.size z → A z := fun z hz => by
    rcases hz with ⟨k, e2, h⟩ | h
    · exact hD.2 (((([(h0, .inr (5, [.ref q1, .ref q3, .null]))]) ++ gsl g ad2 1 42) ++ gsl g ad4 43 85 : va_W).length + k) (z, e2) (by rw [List.getElem?_append_right (Nat.le_add_right _ _), Nat.add_sub_cancel_left]; exact h)
    · exact hA z (Nat.le_trans hS.1 h)
  refine va_callv (va_runIN (b := q5) (As := []) (rest := [.ref q5, .ref h0]) ⟨hx, hb, hml, hown, hts⟩ (kX0_init q5 H.size) ⟨va_cnB 0 hts (g_inL qi_code_0) rfl rfl rfl (hNW.1 _ (by decide +kernel) : va_Nw (.methodLinkNest RX5 25 yX0_init RX5) s) (hts _ qi_ini_0) ⟨by decide, by decide, by decide +kernel⟩ ⟨Nat.le_of_ble_eq_true rfl, Nat.le_of_ble_eq_true rfl⟩, rfl, hts _ qi_im_0⟩ ⟨g_blindC, fun U hU hW => ⟨rfl, by rw [hU], by rw [hU]; exact hPc, va_K.moved hW.alike hK, hDc, hNW.warm hW⟩⟩ rfl rfl hl.1 rfl (Nat.le_of_ble_eq_true rfl) dX5_init_31 ⟨Nat.le_of_ble_eq_true rfl, Nat.le_of_ble_eq_true rfl⟩) hS (fun z _ h => hFc z h) hFc (fun ad6 t H1 locs1 ht hvm hw6 hB hz1 hk1 hS => ?_)
  obtain ⟨hP1, hK1, hD1⟩ := hB
  rw [ht] at hP1
  obtain ⟨hP, hD⟩ := g_joinC (w0 := (([(h0, .inr (5, [.ref q1, .ref q3, .null]))]) ++ gsl g ad2 1 42) ++ gsl g ad4 43 85) hP hD hk1 hFc hP1 hD1
  generalize H1 = H at hP hS ⊢
  have hP : va_P D vwCl (((([(h0, .inr (5, [.ref q1, .ref q3, .null]))]) ++ gsl g ad2 1 42) ++ gsl g ad4 43 85) ++ gsl g ad6 128 55) H := hP
  have hD : va_D A (((([(h0, .inr (5, [.ref q1, .ref q3, .null]))]) ++ gsl g ad2 1 42) ++ gsl g ad4 43 85) ++ gsl g ad6 128 55) := hD
  refine va_putF (D := D) (ci := 5) (v := .ref q5) (ty := .object "GearTypes$Finder") (C := RX5) (T := TX5) (N := 3) hx hb hts gu_5 tyX5 tyX5_ok nmX5 hown hK hP hD hS 0 rfl rfl 2 (by decide) (hts _ qp_X5_26) (fun _ h9 => h9) rfl hin rfl (by decide +kernel) rfl rfl (Nat.le_of_ble_eq_true rfl) dX5_init_34 (fun H locs hP hD hS => ?_)
  have hP : va_P D vwCl (((([(h0, .inr (5, [.ref q1, .ref q3, .ref q5]))]) ++ gsl g ad2 1 42) ++ gsl g ad4 43 85) ++ gsl g ad6 128 55) H := hP
  have hD : va_D A (((([(h0, .inr (5, [.ref q1, .ref q3, .ref q5]))]) ++ gsl g ad2 1 42) ++ gsl g ad4 43 85) ++ gsl g ad6 128 55) := hD
  have hfin : ((([(h0, .inr (5, [.ref q1, .ref q3, .ref q5]))]) ++ gsl g ad2 1 42) ++ gsl g ad4 43 85) ++ gsl g ad6 128 55 = gsl g (fun i => if i = 0 then h0 else if i < 43 then ad2 i else if i < 128 then ad4 i else if i < 183 then ad6 i else 0) 0 183 := by
    generalize had : (fun i : Nat => if i = 0 then h0 else if i < 43 then ad2 i else if i < 128 then ad4 i else if i < 183 then ad6 i else 0) = ad
    have f0 : ad 0 = h0 := by rw [← had]; rfl
    have f1 : ∀ i, 1 ≤ i → i < 43 → ad i = ad2 i := fun i h1 h2 => by
      rw [← had]
      simp only [show ∀ z, z < 1 → (i = z) = False from fun z hz => eq_false (by omega), show ∀ z, z ≤ 1 → (i < z) = False from fun z hz => eq_false (by omega), show (i < 43) = True from eq_true (by omega), if_true, if_false, Nat.reduceLT, Nat.reduceLeDiff]
    have f2 : ∀ i, 43 ≤ i → i < 128 → ad i = ad4 i := fun i h1 h2 => by
      rw [← had]
      simp only [show ∀ z, z < 43 → (i = z) = False from fun z hz => eq_false (by omega), show ∀ z, z ≤ 43 → (i < z) = False from fun z hz => eq_false (by omega), show (i < 128) = True from eq_true (by omega), if_true, if_false, Nat.reduceLT, Nat.reduceLeDiff]
    have f3 : ∀ i, 128 ≤ i → i < 183 → ad i = ad6 i := fun i h1 h2 => by
      rw [← had]
      simp only [show ∀ z, z < 128 → (i = z) = False from fun z hz => eq_false (by omega), show ∀ z, z ≤ 128 → (i < z) = False from fun z hz => eq_false (by omega), show (i < 183) = True from eq_true (by omega), if_true, if_false, Nat.reduceLT, Nat.reduceLeDiff]
    rw [show 183 = (((1 + 42) + 85) + 55) from rfl]
    rw [gsl_app]
    rw [gsl_app]
    rw [gsl_app]
    have e0 : gsl g ad 0 1 = [(h0, .inr (5, [.ref q1, .ref q3, .ref q5]))] := by
      show [(ad 0, g_ce g ad (g_ln (fun _ => 500) 0) (fun _ => 0) 0)] = _
      simp only [g_ce, Nat.reduceEqDiff, if_true, if_false, f0, f1 1 (by omega) (by omega), hw2, f2 43 (by omega) (by omega), hw4, f3 128 (by omega) (by omega), hw6, g_ln, g_len, Nat.reduceLeDiff, Nat.reduceLT, and_self, and_true, true_and, false_and, and_false, or_self, or_false, false_or, reduceCtorEq]
    have e1 : gsl g ad 1 42 = gsl g ad2 1 42 := gsl_cg (hi := 43) (by omega) rfl f1
    have e2 : gsl g ad 43 85 = gsl g ad4 43 85 := gsl_cg (hi := 128) (by omega) rfl f2
    have e3 : gsl g ad 128 55 = gsl g ad6 128 55 := gsl_cg (hi := 183) (by omega) rfl f3
    try simp only [Nat.reduceAdd]
    rw [e0, e1, e2, e3]
  rw [hfin] at hP hD
  subst hAe
  exact W.vret hx hb hr (fun t ht hW => ⟨⟨_, rfl, rfl, by rw [ht]; exact hP, va_K.moved hW.alike hK, hD⟩, hS.F ht⟩) hS.2.2 dX5_init_37 hlocks
