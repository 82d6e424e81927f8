/-! THE MODELS' OWN WORDS: naming, guards, binds; and how a walk takes them apart -/
/-- the bound of every loop's model -/
def gF : Nat := 1000002
def g_let {α β : Type} (v : α) (f : α → β) : β := f v
theorem g_lt {α β : Type} {v : α} {f : α → Option β} {x : β} (h : g_let v f = some x) : ∃ w, v = w ∧ f w = some x := ⟨v, rfl, h⟩
theorem g_gd {β : Type} {c : Prop} {_ : Decidable c} {a : Option β} {x : β} (h : (if c then a else none) = some x) : c ∧ a = some x := by
  by_cases q : c
  · rw [if_pos q] at h; exact ⟨q, h⟩
  · rw [if_neg q] at h; cases h
theorem g_bd {α β : Type} {o : Option α} {f : α → Option β} {x : β} (h : o.bind f = some x) : ∃ q, o = some q ∧ f q = some x := by
  cases o with
  | none => cases h
  | some q => exact ⟨q, rfl, h⟩
theorem g_tt {β : Type} {c : Prop} {_ : Decidable c} {a b : Option β} {x : β} (q : c) (h : (if c then a else b) = some x) : a = some x := by rw [if_pos q] at h; exact h
theorem g_ff {β : Type} {c : Prop} {_ : Decidable c} {a b : Option β} {x : β} (q : ¬ c) (h : (if c then a else b) = some x) : b = some x := by rw [if_neg q] at h; exact h
theorem g_sw1_8 {x : Int32} (h1 : ¬ x = 1) (h2 : ¬ x = 2) (h3 : ¬ x = 3) (h4 : ¬ x = 4) (h5 : ¬ x = 5) (h6 : ¬ x = 6) (h7 : ¬ x = 7) (h8 : ¬ x = 8) : x.toInt < 1 ∨ 8 < x.toInt := by
  have t : ∀ y : Int32, ¬ x = y → x.toInt ≠ y.toInt := fun y h q => h (Int32.toInt_inj.mp q)
  have := t 1 h1; have := t 2 h2; have := t 3 h3; have := t 4 h4; have := t 5 h5; have := t 6 h6; have := t 7 h7; have := t 8 h8
  simp at *
  omega
theorem g_sw0_7 {x : Int32} (h0 : ¬ x = 0) (h1 : ¬ x = 1) (h2 : ¬ x = 2) (h3 : ¬ x = 3) (h4 : ¬ x = 4) (h5 : ¬ x = 5) (h6 : ¬ x = 6) (h7 : ¬ x = 7) : x.toInt < 0 ∨ 7 < x.toInt := by
  have t : ∀ y : Int32, ¬ x = y → x.toInt ≠ y.toInt := fun y h q => h (Int32.toInt_inj.mp q)
  have := t 0 h0; have := t 1 h1; have := t 2 h2; have := t 3 h3; have := t 4 h4; have := t 5 h5; have := t 6 h6; have := t 7 h7
  simp at *
  omega
theorem g_rowI : ∀ j, j < 40 → g_isI (3 + j) = true ∧ g_isI (45 + j) = true ∧ g_isI (86 + j) = true ∧ g_isI (141 + j) = true ∧ g_len (3 + j) = 7 ∧ g_len (45 + j) = 60 ∧ g_len (86 + j) = 5 ∧ g_len (141 + j) = 60 := by decide +kernel
theorem g_row3 {N : Nat} {ln : Nat → Nat} {x : Int32} (hN : 183 ≤ N) (h : g_in x 40 = true) : 3 + x.toNatClampNeg < N ∧ g_isI (3 + x.toNatClampNeg) = true ∧ g_ln ln (3 + x.toNatClampNeg) = 7 := by
  have h1 := g_in_lt h
  exact ⟨by omega, (g_rowI _ h1).1, by rw [g_ln_c (by omega)]; exact (g_rowI _ h1).2.2.2.2.1⟩
theorem g_row45 {N : Nat} {ln : Nat → Nat} {x : Int32} (hN : 183 ≤ N) (h : g_in x 40 = true) : 45 + x.toNatClampNeg < N ∧ g_isI (45 + x.toNatClampNeg) = true ∧ g_ln ln (45 + x.toNatClampNeg) = 60 := by
  have h1 := g_in_lt h
  exact ⟨by omega, (g_rowI _ h1).2.1, by rw [g_ln_c (by omega)]; exact (g_rowI _ h1).2.2.2.2.2.1⟩
theorem g_row86 {N : Nat} {ln : Nat → Nat} {x : Int32} (hN : 183 ≤ N) (h : g_in x 40 = true) : 86 + x.toNatClampNeg < N ∧ g_isI (86 + x.toNatClampNeg) = true ∧ g_ln ln (86 + x.toNatClampNeg) = 5 := by
  have h1 := g_in_lt h
  exact ⟨by omega, (g_rowI _ h1).2.2.1, by rw [g_ln_c (by omega)]; exact (g_rowI _ h1).2.2.2.2.2.2.1⟩
theorem g_row141 {N : Nat} {ln : Nat → Nat} {x : Int32} (hN : 183 ≤ N) (h : g_in x 40 = true) : 141 + x.toNatClampNeg < N ∧ g_isI (141 + x.toNatClampNeg) = true ∧ g_ln ln (141 + x.toNatClampNeg) = 60 := by
  have h1 := g_in_lt h
  exact ⟨by omega, (g_rowI _ h1).2.2.2.1, by rw [g_ln_c (by omega)]; exact (g_rowI _ h1).2.2.2.2.2.2.2⟩
/-- the words of Math.min, Math.max -/
def g_siteM (own : String) (ix : Nat) (z : MethodName) (b : ByteArray) : Prop := Cond.methodLink own ix z ∈ gtb ∧ Cond.static z ∈ gtb ∧ Cond.initialized "java/lang/Math" ∈ gtb ∧ Cond.code z b 2 (some .int) ∈ gtb
section GM
variable {p : Program} {l : Launch} {e : Env} {R : Room} {s : State} {m : MethodId} {args : Array Value} {below : List Frame} {meth : Method} {c : Code} {Q : State → Prop} {nL : Nat} {D : va_G} {g : gT} {As : Nat → Prop} {N : Nat} {ad ln : Nat → Nat} {A A' : gM} {loc loc' : List (Nat × gV)} {k n pc : Nat} {st : List gV} {cc : ByteArray} {own : String} {d : Nat}
theorem g_topi {x y : Int32} (h : x = y) (kk : gJ p l e R s m args below meth c Q nL D g As N ad ln A loc k n pc (gi y :: st)) : gJ p l e R s m args below meth c Q nL D g As N ad ln A loc k n pc (gi x :: st) := h ▸ kk
theorem g_topl {x y : Int64} (h : x = y) (kk : gJ p l e R s m args below meth c Q nL D g As N ad ln A loc k n pc (gl y :: st)) : gJ p l e R s m args below meth c Q nL D g As N ad ln A loc k n pc (gl x :: st) := h ▸ kk
theorem g_topd {x y : UInt64} (h : x = y) (kk : gJ p l e R s m args below meth c Q nL D g As N ad ln A loc k n pc (gd y :: st)) : gJ p l e R s m args below meth c Q nL D g As N ad ln A loc k n pc (gd x :: st) := h ▸ kk
theorem g_mmax (C : gC p R s m args meth c cc own nL D g As d) {x y : Int32} {ix : Nat} (hs : g_siteM own ix Lib.Math.max.name Lib.Math.max.code) (hd : 1 ≤ d) (hcat : (st.map g_cat).sum ≤ 8) (hkn : k ≤ R.cells ∧ n ≤ R.slots) (hdg : decode cc pc = .ok (.invokestatic ix, 3)) (kk : gJ p l e R s m args below meth c Q nL D g As N ad ln A loc k n (pc + 3) (gi (if x < y then y else x) :: st)) : gJ p l e R s m args below meth c Q nL D g As N ad ln A loc k n pc (gi y :: gi x :: st) := fun H locs ls hP hD hS hl => va_mmax C.1 C.2.1 (by rw [C.2.2.1]; exact hl.1.symm) C.2.2.2.1 (C.2.2.2.2.1 _ hs.1) (C.2.2.2.2.1 _ hs.2.1) (C.2.2.2.2.1 _ hs.2.2.1) (C.2.2.2.2.1 _ hs.2.2.2) (by have := C.2.2.2.2.2.2.2.2.1; omega) (by have h1 := g_lv (ad := ad) hcat; have := C.2.2.2.2.2.2.2.2.2; omega) hkn.1 hkn.2 hdg (kk H locs ls hP hD hS hl)
theorem g_mmin (C : gC p R s m args meth c cc own nL D g As d) {x y : Int32} {ix : Nat} (hs : g_siteM own ix Lib.Math.min.name Lib.Math.min.code) (hd : 1 ≤ d) (hcat : (st.map g_cat).sum ≤ 8) (hkn : k ≤ R.cells ∧ n ≤ R.slots) (hdg : decode cc pc = .ok (.invokestatic ix, 3)) (kk : gJ p l e R s m args below meth c Q nL D g As N ad ln A loc k n (pc + 3) (gi (if y < x then y else x) :: st)) : gJ p l e R s m args below meth c Q nL D g As N ad ln A loc k n pc (gi y :: gi x :: st) := fun H locs ls hP hD hS hl => va_mmin C.1 C.2.1 (by rw [C.2.2.1]; exact hl.1.symm) C.2.2.2.1 (C.2.2.2.2.1 _ hs.1) (C.2.2.2.2.1 _ hs.2.1) (C.2.2.2.2.1 _ hs.2.2.1) (C.2.2.2.2.1 _ hs.2.2.2) (by have := C.2.2.2.2.2.2.2.2.1; omega) (by have h1 := g_lv (ad := ad) hcat; have := C.2.2.2.2.2.2.2.2.2; omega) hkn.1 hkn.2 hdg (kk H locs ls hP hD hS hl)
end GM
