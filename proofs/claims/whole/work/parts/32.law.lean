section GLAW
variable {p : Program} {l : Launch} {e : Env} {s : State} {m : MethodId} {below : List Frame} {meth : Method} {c : Code} {Q : State → Prop} {D : va_G} {g : gT} {N b L : Nat} {xs : Nat → Int32} {ad ln : Nat → Nat} {A A' A1 : gM} {loc loc' : List (Nat × gV)} {k n pc : Nat} {st : List gV} {R : Room} {nL d : Nat} {cc : ByteArray} {args : Array Value} {As : Nat → Prop} {own : String}
/-- what stays while the law runs, besides -/
def gLX (l : Launch) (s : State) (meth : Method) (b L : Nat) (xs : Nat → Int32) : Prop := l.stackTraces = false ∧ gX s ∧ gZ (fun q : Nat => s.heap.size ≤ q) s s.heap ∧ gNC s ∧ va_X b L xs s s.heap ∧ b < s.heap.size ∧ meth.sig.returnType = ret
theorem g_aloadX_n (C : gC p R s m args meth c cc own nL D g As d) (q : Nat) {x : Nat} {z : Fin 4} (hdg : decode cc pc = .ok (.aload_n z, 1)) (h : loc[q]? = some ((z : Nat), .inr (.ref x))) (kk : gJ p l e R s m args below meth c Q nL D g As N ad ln A loc k n (pc + 1) (.inr (.ref x) :: st)) : gJ p l e R s m args below meth c Q nL D g As N ad ln A loc k n pc st := fun H locs ls hP hD hS hl => lv_aload_n C.1 C.2.1 hdg rfl (g_at hl h) (kk H locs ls hP hD hS hl)
theorem g_slen (C : gC p R s m args meth c cc own nL D g (fun q : Nat => s.heap.size ≤ q) d) (CX : gLX l s meth b L xs) (hdg : decode cc pc = .ok (.arraylength, 1)) (kk : gJ p l e R s m args below meth c Q nL D g (fun q : Nat => s.heap.size ≤ q) N ad ln A loc k n (pc + 1) (gi (Int32.ofNat L) :: st)) : gJ p l e R s m args below meth c Q nL D g (fun q : Nat => s.heap.size ≤ q) N ad ln A loc k n pc (.inr (.ref b) :: st) := fun H locs ls hP hD hS hl => va_slen C.1 C.2.1 CX.2.2.2.2.1 CX.2.2.2.2.2.1 (Nat.not_le.mpr CX.2.2.2.2.2.1) hS hdg (kk H locs ls hP hD hS hl)
theorem g_sld (C : gC p R s m args meth c cc own nL D g (fun q : Nat => s.heap.size ≤ q) d) (CX : gLX l s meth b L xs) {x : Int32} (hin : g_in x L = true) (hdg : decode cc pc = .ok (.iaload, 1)) (kk : gJ p l e R s m args below meth c Q nL D g (fun q : Nat => s.heap.size ≤ q) N ad ln A loc k n (pc + 1) (gi (xs x.toNatClampNeg) :: st)) : gJ p l e R s m args below meth c Q nL D g (fun q : Nat => s.heap.size ≤ q) N ad ln A loc k n pc (gi x :: .inr (.ref b) :: st) := fun H locs ls hP hD hS hl => va_sld C.1 C.2.1 CX.2.2.2.2.1 CX.2.2.2.2.2.1 (Nat.not_le.mpr CX.2.2.2.2.2.1) hS (g_in_vp hin) hdg (kk H locs ls hP hD hS hl)
theorem g_retLaw (C : gC p room_1 s m #[Value.ref b] meth c cL_law RL 9 D g (fun q : Nat => s.heap.size ≤ q) d) (CX : gLX l s meth b L xs) (hg : k ≤ 601024 ∧ n ≤ 7293034) (hdg : decode cL_law pc = .ok (.ireturn, 1)) : gJ p l e room_1 s m #[Value.ref b] below meth c (lw_Z below #[Value.ref b] s) 9 D g (fun q : Nat => s.heap.size ≤ q) N ad ln A loc k n pc [gi 1] := fun H locs ls hP hD hS hl => by
  refine va_forget (fun q hq => hS.2.2 q hq) ?_
  refine W.widen (k := 601024) (n := 7293034) hg.1 hg.2 ?_
  exact W.base (lw_ret (d0 := s.drawn) (Drawn.sameBut.refl s.drawn lw_cs) C.1 C.2.1 CX.2.2.2.2.2.2 C.2.2.2.2.2.2.2.1 hdg)
/-- the words of a call of one of the law's own methods -/
def g_siteL (own : String) (ix : Nat) (z : MethodName) (b : ByteArray) (mL : Nat) (hh : gH) (np : Nat) : Prop :=
  Cond.methodLink own ix z ∈ gtb ∧ Cond.static z ∈ gtb ∧ Cond.initialized z.cls ∈ gtb ∧ Cond.codeWith z b mL (some .int) hh ∈ gtb ∧ (z.cls ≠ "java/lang/invoke/MethodHandle" ∧ z.cls ≠ "java/lang/invoke/VarHandle" ∧ (parseMethodDescriptor z.desc).map (fun d => d.parameters.length) = some np) ∧ mL ≤ 20
theorem g_goodL {own : String} {ix : Nat} {z : MethodName} {b : ByteArray} {mL np : Nat} {hh : gH} (h : g_siteL own ix z b mL hh np) : GoodIn gtb (va_wsS own ix z (Cond.codeWith z b mL (some .int) hh :: gtb)) := by
  intro w hw
  have hm : w ∈ gtb := by
    rcases List.mem_append.mp hw with hw | hw
    · rcases List.mem_cons.mp hw with rfl | hw
      · exact h.1
      · rcases List.mem_cons.mp hw with rfl | hw
        · exact h.2.1
        · rcases List.mem_cons.mp hw with rfl | hw
          · exact h.2.2.1
          · cases hw
    · rcases List.mem_cons.mp hw with rfl | hw
      · exact h.2.2.2.1
      · exact hw
  exact ⟨hm, good_of_word (g_word hm)⟩
theorem g_callL (C : gC p R s m args meth c cc own nL D g (fun q : Nat => s.heap.size ≤ q) d) (CX : gLX l s meth b L xs) (as : List gV) {st0 : List gV} {ix np mL d' c1 : Nat} {z : MethodName} {bb : ByteArray} {hh : gH} {r : Int32} (hM : gLi l z bb mL hh d' c1 D g N ad ln A as A1 r) (hs : g_siteL own ix z bb mL hh np) (hd : d' + 1 ≤ d) (hn : as.length = np) (hst : st0 = as.reverse ++ st) (hcat : (st.map g_cat).sum ≤ 8) (hkn : k + c1 ≤ R.cells ∧ n + 6 * c1 ≤ R.slots) (hdg : decode cc pc = .ok (.invokestatic ix, 3)) (kk : gJ p l e R s m args below meth c Q nL D g (fun q : Nat => s.heap.size ≤ q) N ad ln A1 loc (k + c1) (n + 6 * c1) (pc + 3) (gi r :: st)) : gJ p l e R s m args below meth c Q nL D g (fun q : Nat => s.heap.size ≤ q) N ad ln A loc k n pc st0 := by
  intro H locs ls hP hD hS hl
  have hF := g_frees hD hS C.2.2.2.2.2.2.1
  refine vx_calli (vx_runSX (As := as.map (g_v ad)) (rest := st.map (g_v ad)) ⟨C.1, C.2.1, C.2.2.1, C.2.2.2.1, C.2.2.2.2.1⟩ (hM H.size) (vx_cwSW np C.2.2.2.2.1 (g_goodL hs) rfl rfl rfl hs.2.2.2.2.1 (g_roomx C.2.2.2.2.2.2.2.2 hd hs.2.2.2.2.2)) ⟨g_blindL, fun U hU hW => ⟨rfl, by rw [hU], by rw [hU]; exact hP, va_K.moved hW.alike C.2.2.2.2.2.1, hD.weaken (fun _ _ _ _ => trivial), CX.2.1.warm hW, by rw [hU]; exact g_zNow CX.2.2.1 C.2.2.2.2.2.2.1 hD hS hW.alike, CX.2.2.2.1.moved hW.alike⟩⟩ rfl (by rw [List.length_map]; exact hn) hl.1 (by show st0.map (g_v ad) = _; rw [hst]; simp [g_v]) (g_lv hcat) hdg hkn) hS (fun q _ h => hF q h) hF (fun q _ h => hF q h) (fun E ce q9 u t H1 locs1 ht hvm hw hB hz1 hk1 hS hce hcv hcl => absurd hw id) (fun r u t H1 locs1 ht hvm hw hB hz1 hk1 hS => ?_)
  subst hw
  obtain ⟨hP1, hK1, hD1⟩ := hB
  rw [ht] at hP1
  exact kk H1 locs1 ls hP1 (hD1.weaken (fun _ _ _ h => hF _ h)) hS hl
end GLAW
theorem g_sw0_19 {x : Int32} (h0 : ¬ x = 0) (h1 : ¬ x = 1) (h2 : ¬ x = 2) (h3 : ¬ x = 3) (h4 : ¬ x = 4) (h5 : ¬ x = 5) (h6 : ¬ x = 6) (h7 : ¬ x = 7) (h8 : ¬ x = 8) (h9 : ¬ x = 9) (h10 : ¬ x = 10) (h11 : ¬ x = 11) (h12 : ¬ x = 12) (h13 : ¬ x = 13) (h14 : ¬ x = 14) (h15 : ¬ x = 15) (h16 : ¬ x = 16) (h17 : ¬ x = 17) (h18 : ¬ x = 18) (h19 : ¬ x = 19) : x.toInt < 0 ∨ 19 < x.toInt := by
  have t : ∀ y : Int32, ¬ x = y → x.toInt ≠ y.toInt := fun y h q => h (Int32.toInt_inj.mp q)
  have := t 0 h0; have := t 1 h1; have := t 2 h2; have := t 3 h3; have := t 4 h4; have := t 5 h5; have := t 6 h6; have := t 7 h7; have := t 8 h8; have := t 9 h9; have := t 10 h10; have := t 11 h11; have := t 12 h12; have := t 13 h13; have := t 14 h14; have := t 15 h15; have := t 16 h16; have := t 17 h17; have := t 18 h18; have := t 19 h19
  simp at *
  omega
theorem qs_L_100 : g_site RL RX6 100 yX6_axle cX6_axle 3 (some .int) 2 := ⟨g_tb (List.mem_of_getElem? (i := 840) (by decide +kernel)) (by decide +kernel), g_tb (List.mem_of_getElem? (i := 841) (by decide +kernel)) (by decide +kernel), g_tb (List.mem_of_getElem? (i := 842) (by decide +kernel)) (by decide +kernel), g_tb (List.mem_of_getElem? (i := 79) (by decide +kernel)) (by decide +kernel), g_tb (List.mem_of_getElem? (i := 843) (by decide +kernel)) (by decide +kernel), ⟨rfl, by decide, by decide, by decide +kernel⟩, by decide⟩
theorem qs_L_103 : g_site RL RX6 103 yX6_end cX6_end 3 (some .int) 2 := ⟨g_tb (List.mem_of_getElem? (i := 844) (by decide +kernel)) (by decide +kernel), g_tb (List.mem_of_getElem? (i := 845) (by decide +kernel)) (by decide +kernel), g_tb (List.mem_of_getElem? (i := 846) (by decide +kernel)) (by decide +kernel), g_tb (List.mem_of_getElem? (i := 79) (by decide +kernel)) (by decide +kernel), g_tb (List.mem_of_getElem? (i := 847) (by decide +kernel)) (by decide +kernel), ⟨rfl, by decide, by decide, by decide +kernel⟩, by decide⟩
theorem qs_L_106 : g_site RL RX6 106 yX6_either cX6_either 4 (some .int) 3 := ⟨g_tb (List.mem_of_getElem? (i := 848) (by decide +kernel)) (by decide +kernel), g_tb (List.mem_of_getElem? (i := 849) (by decide +kernel)) (by decide +kernel), g_tb (List.mem_of_getElem? (i := 850) (by decide +kernel)) (by decide +kernel), g_tb (List.mem_of_getElem? (i := 79) (by decide +kernel)) (by decide +kernel), g_tb (List.mem_of_getElem? (i := 851) (by decide +kernel)) (by decide +kernel), ⟨rfl, by decide, by decide, by decide +kernel⟩, by decide⟩
theorem qs_L_110 : g_site RL RX6 110 yX6_undo cX6_undo 1 (some .int) 0 := ⟨g_tb (List.mem_of_getElem? (i := 852) (by decide +kernel)) (by decide +kernel), g_tb (List.mem_of_getElem? (i := 853) (by decide +kernel)) (by decide +kernel), g_tb (List.mem_of_getElem? (i := 854) (by decide +kernel)) (by decide +kernel), g_tb (List.mem_of_getElem? (i := 79) (by decide +kernel)) (by decide +kernel), g_tb (List.mem_of_getElem? (i := 855) (by decide +kernel)) (by decide +kernel), ⟨rfl, by decide, by decide, by decide +kernel⟩, by decide⟩
theorem qs_L_113 : g_site RL RX6 113 yX6_part cX6_part 3 (some .int) 2 := ⟨g_tb (List.mem_of_getElem? (i := 856) (by decide +kernel)) (by decide +kernel), g_tb (List.mem_of_getElem? (i := 857) (by decide +kernel)) (by decide +kernel), g_tb (List.mem_of_getElem? (i := 858) (by decide +kernel)) (by decide +kernel), g_tb (List.mem_of_getElem? (i := 79) (by decide +kernel)) (by decide +kernel), g_tb (List.mem_of_getElem? (i := 859) (by decide +kernel)) (by decide +kernel), ⟨rfl, by decide, by decide, by decide +kernel⟩, by decide⟩
theorem qs_L_116 : g_site RL RX6 116 yX6_type cX6_type 3 (some .int) 2 := ⟨g_tb (List.mem_of_getElem? (i := 869) (by decide +kernel)) (by decide +kernel), g_tb (List.mem_of_getElem? (i := 870) (by decide +kernel)) (by decide +kernel), g_tb (List.mem_of_getElem? (i := 871) (by decide +kernel)) (by decide +kernel), g_tb (List.mem_of_getElem? (i := 79) (by decide +kernel)) (by decide +kernel), g_tb (List.mem_of_getElem? (i := 872) (by decide +kernel)) (by decide +kernel), ⟨rfl, by decide, by decide, by decide +kernel⟩, by decide⟩
theorem qs_L_119 : g_site RL RX6 119 yX6_code cX6_code 4 (some .int) 2 := ⟨g_tb (List.mem_of_getElem? (i := 985) (by decide +kernel)) (by decide +kernel), g_tb (List.mem_of_getElem? (i := 986) (by decide +kernel)) (by decide +kernel), g_tb (List.mem_of_getElem? (i := 987) (by decide +kernel)) (by decide +kernel), g_tb (List.mem_of_getElem? (i := 79) (by decide +kernel)) (by decide +kernel), g_tb (List.mem_of_getElem? (i := 988) (by decide +kernel)) (by decide +kernel), ⟨rfl, by decide, by decide, by decide +kernel⟩, by decide⟩
theorem qs_L_122 : g_site RL RX6 122 yX6_count cX6_count 2 (some .int) 1 := ⟨g_tb (List.mem_of_getElem? (i := 989) (by decide +kernel)) (by decide +kernel), g_tb (List.mem_of_getElem? (i := 990) (by decide +kernel)) (by decide +kernel), g_tb (List.mem_of_getElem? (i := 991) (by decide +kernel)) (by decide +kernel), g_tb (List.mem_of_getElem? (i := 79) (by decide +kernel)) (by decide +kernel), g_tb (List.mem_of_getElem? (i := 992) (by decide +kernel)) (by decide +kernel), ⟨rfl, by decide, by decide, by decide +kernel⟩, by decide⟩
theorem qs_L_125 : g_site RL RX6 125 yX6_same cX6_same 7 (some .boolean) 2 := ⟨g_tb (List.mem_of_getElem? (i := 997) (by decide +kernel)) (by decide +kernel), g_tb (List.mem_of_getElem? (i := 998) (by decide +kernel)) (by decide +kernel), g_tb (List.mem_of_getElem? (i := 999) (by decide +kernel)) (by decide +kernel), g_tb (List.mem_of_getElem? (i := 79) (by decide +kernel)) (by decide +kernel), g_tb (List.mem_of_getElem? (i := 1000) (by decide +kernel)) (by decide +kernel), ⟨rfl, by decide, by decide, by decide +kernel⟩, by decide⟩
theorem qs_L_128 : g_site RL RX6 128 yX6_fits cX6_fits 14 (some .boolean) 2 := ⟨g_tb (List.mem_of_getElem? (i := 1001) (by decide +kernel)) (by decide +kernel), g_tb (List.mem_of_getElem? (i := 1002) (by decide +kernel)) (by decide +kernel), g_tb (List.mem_of_getElem? (i := 1003) (by decide +kernel)) (by decide +kernel), g_tb (List.mem_of_getElem? (i := 79) (by decide +kernel)) (by decide +kernel), g_tb (List.mem_of_getElem? (i := 1004) (by decide +kernel)) (by decide +kernel), ⟨rfl, by decide, by decide, by decide +kernel⟩, by decide⟩
theorem qs_L_131 : g_site RL RX6 131 yX6_goes cX6_goes 3 (some .int) 2 := ⟨g_tb (List.mem_of_getElem? (i := 1008) (by decide +kernel)) (by decide +kernel), g_tb (List.mem_of_getElem? (i := 1009) (by decide +kernel)) (by decide +kernel), g_tb (List.mem_of_getElem? (i := 1010) (by decide +kernel)) (by decide +kernel), g_tb (List.mem_of_getElem? (i := 79) (by decide +kernel)) (by decide +kernel), g_tb (List.mem_of_getElem? (i := 1011) (by decide +kernel)) (by decide +kernel), ⟨rfl, by decide, by decide, by decide +kernel⟩, by decide⟩
theorem qs_L_134 : g_site RL RX6 134 yX6_first cX6_first 3 (some .int) 1 := ⟨g_tb (List.mem_of_getElem? (i := 1016) (by decide +kernel)) (by decide +kernel), g_tb (List.mem_of_getElem? (i := 1017) (by decide +kernel)) (by decide +kernel), g_tb (List.mem_of_getElem? (i := 1018) (by decide +kernel)) (by decide +kernel), g_tb (List.mem_of_getElem? (i := 79) (by decide +kernel)) (by decide +kernel), g_tb (List.mem_of_getElem? (i := 1019) (by decide +kernel)) (by decide +kernel), ⟨rfl, by decide, by decide, by decide +kernel⟩, by decide⟩
theorem qs_L_135 : g_site RL RX5 135 yX5_longest cX5_longest 5 (some .int) 0 := ⟨g_tb (List.mem_of_getElem? (i := 224) (by decide +kernel)) (by decide +kernel), g_tb (List.mem_of_getElem? (i := 225) (by decide +kernel)) (by decide +kernel), g_tb (List.mem_of_getElem? (i := 226) (by decide +kernel)) (by decide +kernel), g_tb (List.mem_of_getElem? (i := 73) (by decide +kernel)) (by decide +kernel), g_tb (List.mem_of_getElem? (i := 227) (by decide +kernel)) (by decide +kernel), ⟨rfl, by decide, by decide, by decide +kernel⟩, by decide⟩
theorem qs_L_138 : g_site RL RX6 138 yX6_longest cX6_longest 5 (some .int) 0 := ⟨g_tb (List.mem_of_getElem? (i := 1020) (by decide +kernel)) (by decide +kernel), g_tb (List.mem_of_getElem? (i := 1021) (by decide +kernel)) (by decide +kernel), g_tb (List.mem_of_getElem? (i := 1022) (by decide +kernel)) (by decide +kernel), g_tb (List.mem_of_getElem? (i := 79) (by decide +kernel)) (by decide +kernel), g_tb (List.mem_of_getElem? (i := 1023) (by decide +kernel)) (by decide +kernel), ⟨rfl, by decide, by decide, by decide +kernel⟩, by decide⟩
theorem qs_L_139 : g_site RL RX5 139 yX5_mean cX5_mean 4 (some .double) 0 := ⟨g_tb (List.mem_of_getElem? (i := 236) (by decide +kernel)) (by decide +kernel), g_tb (List.mem_of_getElem? (i := 237) (by decide +kernel)) (by decide +kernel), g_tb (List.mem_of_getElem? (i := 238) (by decide +kernel)) (by decide +kernel), g_tb (List.mem_of_getElem? (i := 73) (by decide +kernel)) (by decide +kernel), g_tb (List.mem_of_getElem? (i := 239) (by decide +kernel)) (by decide +kernel), ⟨rfl, by decide, by decide, by decide +kernel⟩, by decide⟩
theorem qs_L_143 : g_site RL RX6 143 yX6_mean cX6_mean 5 (some .double) 0 := ⟨g_tb (List.mem_of_getElem? (i := 1028) (by decide +kernel)) (by decide +kernel), g_tb (List.mem_of_getElem? (i := 1029) (by decide +kernel)) (by decide +kernel), g_tb (List.mem_of_getElem? (i := 1030) (by decide +kernel)) (by decide +kernel), g_tb (List.mem_of_getElem? (i := 79) (by decide +kernel)) (by decide +kernel), g_tb (List.mem_of_getElem? (i := 1031) (by decide +kernel)) (by decide +kernel), ⟨rfl, by decide, by decide, by decide +kernel⟩, by decide⟩
theorem qs_L_144 : g_site RL RX5 144 yX5_digest cX5_digest 6 (some .long) 0 := ⟨g_tb (List.mem_of_getElem? (i := 244) (by decide +kernel)) (by decide +kernel), g_tb (List.mem_of_getElem? (i := 245) (by decide +kernel)) (by decide +kernel), g_tb (List.mem_of_getElem? (i := 246) (by decide +kernel)) (by decide +kernel), g_tb (List.mem_of_getElem? (i := 73) (by decide +kernel)) (by decide +kernel), g_tb (List.mem_of_getElem? (i := 247) (by decide +kernel)) (by decide +kernel), ⟨rfl, by decide, by decide, by decide +kernel⟩, by decide⟩
theorem qs_L_148 : g_site RL RX6 148 yX6_digest cX6_digest 8 (some .long) 0 := ⟨g_tb (List.mem_of_getElem? (i := 1032) (by decide +kernel)) (by decide +kernel), g_tb (List.mem_of_getElem? (i := 1033) (by decide +kernel)) (by decide +kernel), g_tb (List.mem_of_getElem? (i := 1034) (by decide +kernel)) (by decide +kernel), g_tb (List.mem_of_getElem? (i := 79) (by decide +kernel)) (by decide +kernel), g_tb (List.mem_of_getElem? (i := 1035) (by decide +kernel)) (by decide +kernel), ⟨rfl, by decide, by decide, by decide +kernel⟩, by decide⟩
theorem qs_L_80 : g_site RL RX6 80 yX6_plain cX6_plain 2 (some .int) 1 := ⟨g_tb (List.mem_of_getElem? (i := 787) (by decide +kernel)) (by decide +kernel), g_tb (List.mem_of_getElem? (i := 788) (by decide +kernel)) (by decide +kernel), g_tb (List.mem_of_getElem? (i := 789) (by decide +kernel)) (by decide +kernel), g_tb (List.mem_of_getElem? (i := 79) (by decide +kernel)) (by decide +kernel), g_tb (List.mem_of_getElem? (i := 790) (by decide +kernel)) (by decide +kernel), ⟨rfl, by decide, by decide, by decide +kernel⟩, by decide⟩
theorem qs_L_81 : g_site RL RX6 81 yX6_thrown cX6_thrown 1 (some .int) 0 := ⟨g_tb (List.mem_of_getElem? (i := 783) (by decide +kernel)) (by decide +kernel), g_tb (List.mem_of_getElem? (i := 784) (by decide +kernel)) (by decide +kernel), g_tb (List.mem_of_getElem? (i := 785) (by decide +kernel)) (by decide +kernel), g_tb (List.mem_of_getElem? (i := 79) (by decide +kernel)) (by decide +kernel), g_tb (List.mem_of_getElem? (i := 786) (by decide +kernel)) (by decide +kernel), ⟨rfl, by decide, by decide, by decide +kernel⟩, by decide⟩
theorem qs_L_86 : g_site RL RX6 86 yX6_name cX6_name 2 (some .int) 1 := ⟨g_tb (List.mem_of_getElem? (i := 817) (by decide +kernel)) (by decide +kernel), g_tb (List.mem_of_getElem? (i := 818) (by decide +kernel)) (by decide +kernel), g_tb (List.mem_of_getElem? (i := 819) (by decide +kernel)) (by decide +kernel), g_tb (List.mem_of_getElem? (i := 79) (by decide +kernel)) (by decide +kernel), g_tb (List.mem_of_getElem? (i := 820) (by decide +kernel)) (by decide +kernel), ⟨rfl, by decide, by decide, by decide +kernel⟩, by decide⟩
theorem qs_L_90 : g_site RL RX6 90 yX6_wheel cX6_wheel 3 (some .int) 2 := ⟨g_tb (List.mem_of_getElem? (i := 824) (by decide +kernel)) (by decide +kernel), g_tb (List.mem_of_getElem? (i := 825) (by decide +kernel)) (by decide +kernel), g_tb (List.mem_of_getElem? (i := 826) (by decide +kernel)) (by decide +kernel), g_tb (List.mem_of_getElem? (i := 79) (by decide +kernel)) (by decide +kernel), g_tb (List.mem_of_getElem? (i := 827) (by decide +kernel)) (by decide +kernel), ⟨rfl, by decide, by decide, by decide +kernel⟩, by decide⟩
theorem qs_L_93 : g_site RL RX6 93 yX6_turn cX6_turn 3 (some .int) 2 := ⟨g_tb (List.mem_of_getElem? (i := 832) (by decide +kernel)) (by decide +kernel), g_tb (List.mem_of_getElem? (i := 833) (by decide +kernel)) (by decide +kernel), g_tb (List.mem_of_getElem? (i := 834) (by decide +kernel)) (by decide +kernel), g_tb (List.mem_of_getElem? (i := 79) (by decide +kernel)) (by decide +kernel), g_tb (List.mem_of_getElem? (i := 835) (by decide +kernel)) (by decide +kernel), ⟨rfl, by decide, by decide, by decide +kernel⟩, by decide⟩
theorem qs_L_97 : g_site RL RX6 97 yX6_tell cX6_tell 4 (some .int) 3 := ⟨g_tb (List.mem_of_getElem? (i := 836) (by decide +kernel)) (by decide +kernel), g_tb (List.mem_of_getElem? (i := 837) (by decide +kernel)) (by decide +kernel), g_tb (List.mem_of_getElem? (i := 838) (by decide +kernel)) (by decide +kernel), g_tb (List.mem_of_getElem? (i := 79) (by decide +kernel)) (by decide +kernel), g_tb (List.mem_of_getElem? (i := 839) (by decide +kernel)) (by decide +kernel), ⟨rfl, by decide, by decide, by decide +kernel⟩, by decide⟩
theorem qsL_101 : g_siteL RL 101 yL_end cL_end 5 [(0, 10, 13, 24), (0, 10, 17, 13), (0, 10, 21, 15)] 4 := ⟨g_tb (List.mem_of_getElem? (i := 617) (by decide +kernel)) (by decide +kernel), g_tb (List.mem_of_getElem? (i := 618) (by decide +kernel)) (by decide +kernel), g_tb (List.mem_of_getElem? (i := 72) (by decide +kernel)) (by decide +kernel), g_tb (List.mem_of_getElem? (i := 619) (by decide +kernel)) (by decide +kernel), ⟨by decide, by decide, by decide +kernel⟩, by decide⟩
theorem qsL_104 : g_siteL RL 104 yL_either cL_either 6 [(0, 12, 15, 24), (0, 12, 19, 15)] 5 := ⟨g_tb (List.mem_of_getElem? (i := 624) (by decide +kernel)) (by decide +kernel), g_tb (List.mem_of_getElem? (i := 625) (by decide +kernel)) (by decide +kernel), g_tb (List.mem_of_getElem? (i := 72) (by decide +kernel)) (by decide +kernel), g_tb (List.mem_of_getElem? (i := 626) (by decide +kernel)) (by decide +kernel), ⟨by decide, by decide, by decide +kernel⟩, by decide⟩
theorem qsL_107 : g_siteL RL 107 yL_undo cL_undo 3 [(0, 8, 11, 15)] 2 := ⟨g_tb (List.mem_of_getElem? (i := 631) (by decide +kernel)) (by decide +kernel), g_tb (List.mem_of_getElem? (i := 632) (by decide +kernel)) (by decide +kernel), g_tb (List.mem_of_getElem? (i := 72) (by decide +kernel)) (by decide +kernel), g_tb (List.mem_of_getElem? (i := 633) (by decide +kernel)) (by decide +kernel), ⟨by decide, by decide, by decide +kernel⟩, by decide⟩
theorem qsL_111 : g_siteL RL 111 yL_part cL_part 5 [(0, 10, 13, 24)] 4 := ⟨g_tb (List.mem_of_getElem? (i := 642) (by decide +kernel)) (by decide +kernel), g_tb (List.mem_of_getElem? (i := 643) (by decide +kernel)) (by decide +kernel), g_tb (List.mem_of_getElem? (i := 72) (by decide +kernel)) (by decide +kernel), g_tb (List.mem_of_getElem? (i := 644) (by decide +kernel)) (by decide +kernel), ⟨by decide, by decide, by decide +kernel⟩, by decide⟩
theorem qsL_114 : g_siteL RL 114 yL_type cL_type 5 [(0, 10, 13, 24)] 4 := ⟨g_tb (List.mem_of_getElem? (i := 649) (by decide +kernel)) (by decide +kernel), g_tb (List.mem_of_getElem? (i := 650) (by decide +kernel)) (by decide +kernel), g_tb (List.mem_of_getElem? (i := 72) (by decide +kernel)) (by decide +kernel), g_tb (List.mem_of_getElem? (i := 651) (by decide +kernel)) (by decide +kernel), ⟨by decide, by decide, by decide +kernel⟩, by decide⟩
theorem qsL_117 : g_siteL RL 117 yL_code cL_code 5 [(0, 10, 13, 24)] 4 := ⟨g_tb (List.mem_of_getElem? (i := 656) (by decide +kernel)) (by decide +kernel), g_tb (List.mem_of_getElem? (i := 657) (by decide +kernel)) (by decide +kernel), g_tb (List.mem_of_getElem? (i := 72) (by decide +kernel)) (by decide +kernel), g_tb (List.mem_of_getElem? (i := 658) (by decide +kernel)) (by decide +kernel), ⟨by decide, by decide, by decide +kernel⟩, by decide⟩
theorem qsL_120 : g_siteL RL 120 yL_count cL_count 4 [(0, 9, 12, 24)] 3 := ⟨g_tb (List.mem_of_getElem? (i := 663) (by decide +kernel)) (by decide +kernel), g_tb (List.mem_of_getElem? (i := 664) (by decide +kernel)) (by decide +kernel), g_tb (List.mem_of_getElem? (i := 72) (by decide +kernel)) (by decide +kernel), g_tb (List.mem_of_getElem? (i := 665) (by decide +kernel)) (by decide +kernel), ⟨by decide, by decide, by decide +kernel⟩, by decide⟩
theorem qsL_123 : g_siteL RL 123 yL_same cL_same 5 [(0, 17, 20, 24)] 4 := ⟨g_tb (List.mem_of_getElem? (i := 670) (by decide +kernel)) (by decide +kernel), g_tb (List.mem_of_getElem? (i := 671) (by decide +kernel)) (by decide +kernel), g_tb (List.mem_of_getElem? (i := 72) (by decide +kernel)) (by decide +kernel), g_tb (List.mem_of_getElem? (i := 672) (by decide +kernel)) (by decide +kernel), ⟨by decide, by decide, by decide +kernel⟩, by decide⟩
theorem qsL_126 : g_siteL RL 126 yL_fits cL_fits 5 [(0, 17, 20, 24)] 4 := ⟨g_tb (List.mem_of_getElem? (i := 686) (by decide +kernel)) (by decide +kernel), g_tb (List.mem_of_getElem? (i := 687) (by decide +kernel)) (by decide +kernel), g_tb (List.mem_of_getElem? (i := 72) (by decide +kernel)) (by decide +kernel), g_tb (List.mem_of_getElem? (i := 688) (by decide +kernel)) (by decide +kernel), ⟨by decide, by decide, by decide +kernel⟩, by decide⟩
theorem qsL_129 : g_siteL RL 129 yL_goes cL_goes 5 [(0, 10, 13, 24)] 4 := ⟨g_tb (List.mem_of_getElem? (i := 705) (by decide +kernel)) (by decide +kernel), g_tb (List.mem_of_getElem? (i := 706) (by decide +kernel)) (by decide +kernel), g_tb (List.mem_of_getElem? (i := 72) (by decide +kernel)) (by decide +kernel), g_tb (List.mem_of_getElem? (i := 707) (by decide +kernel)) (by decide +kernel), ⟨by decide, by decide, by decide +kernel⟩, by decide⟩
theorem qsL_132 : g_siteL RL 132 yL_first cL_first 4 [(0, 9, 12, 24)] 3 := ⟨g_tb (List.mem_of_getElem? (i := 726) (by decide +kernel)) (by decide +kernel), g_tb (List.mem_of_getElem? (i := 727) (by decide +kernel)) (by decide +kernel), g_tb (List.mem_of_getElem? (i := 72) (by decide +kernel)) (by decide +kernel), g_tb (List.mem_of_getElem? (i := 728) (by decide +kernel)) (by decide +kernel), ⟨by decide, by decide, by decide +kernel⟩, by decide⟩
theorem qsL_75 : g_siteL RL 75 yL_plain cL_plain 4 [(0, 9, 12, 13), (0, 9, 15, 15)] 3 := ⟨g_tb (List.mem_of_getElem? (i := 258) (by decide +kernel)) (by decide +kernel), g_tb (List.mem_of_getElem? (i := 259) (by decide +kernel)) (by decide +kernel), g_tb (List.mem_of_getElem? (i := 72) (by decide +kernel)) (by decide +kernel), g_tb (List.mem_of_getElem? (i := 260) (by decide +kernel)) (by decide +kernel), ⟨by decide, by decide, by decide +kernel⟩, by decide⟩
theorem qsL_84 : g_siteL RL 84 yL_name cL_name 4 [(0, 9, 12, 13), (0, 9, 15, 15)] 3 := ⟨g_tb (List.mem_of_getElem? (i := 558) (by decide +kernel)) (by decide +kernel), g_tb (List.mem_of_getElem? (i := 559) (by decide +kernel)) (by decide +kernel), g_tb (List.mem_of_getElem? (i := 72) (by decide +kernel)) (by decide +kernel), g_tb (List.mem_of_getElem? (i := 560) (by decide +kernel)) (by decide +kernel), ⟨by decide, by decide, by decide +kernel⟩, by decide⟩
theorem qsL_87 : g_siteL RL 87 yL_wheel cL_wheel 5 [(0, 10, 13, 24), (0, 10, 17, 13), (0, 10, 21, 15)] 4 := ⟨g_tb (List.mem_of_getElem? (i := 565) (by decide +kernel)) (by decide +kernel), g_tb (List.mem_of_getElem? (i := 566) (by decide +kernel)) (by decide +kernel), g_tb (List.mem_of_getElem? (i := 72) (by decide +kernel)) (by decide +kernel), g_tb (List.mem_of_getElem? (i := 567) (by decide +kernel)) (by decide +kernel), ⟨by decide, by decide, by decide +kernel⟩, by decide⟩
theorem qsL_91 : g_siteL RL 91 yL_turn cL_turn 5 [(0, 10, 13, 24), (0, 10, 17, 15)] 4 := ⟨g_tb (List.mem_of_getElem? (i := 596) (by decide +kernel)) (by decide +kernel), g_tb (List.mem_of_getElem? (i := 597) (by decide +kernel)) (by decide +kernel), g_tb (List.mem_of_getElem? (i := 72) (by decide +kernel)) (by decide +kernel), g_tb (List.mem_of_getElem? (i := 598) (by decide +kernel)) (by decide +kernel), ⟨by decide, by decide, by decide +kernel⟩, by decide⟩
theorem qsL_94 : g_siteL RL 94 yL_tell cL_tell 6 [(0, 12, 15, 24), (0, 12, 19, 13), (0, 12, 23, 15)] 5 := ⟨g_tb (List.mem_of_getElem? (i := 603) (by decide +kernel)) (by decide +kernel), g_tb (List.mem_of_getElem? (i := 604) (by decide +kernel)) (by decide +kernel), g_tb (List.mem_of_getElem? (i := 72) (by decide +kernel)) (by decide +kernel), g_tb (List.mem_of_getElem? (i := 605) (by decide +kernel)) (by decide +kernel), ⟨by decide, by decide, by decide +kernel⟩, by decide⟩
theorem qsL_98 : g_siteL RL 98 yL_axle cL_axle 5 [(0, 10, 13, 24), (0, 10, 17, 15)] 4 := ⟨g_tb (List.mem_of_getElem? (i := 610) (by decide +kernel)) (by decide +kernel), g_tb (List.mem_of_getElem? (i := 611) (by decide +kernel)) (by decide +kernel), g_tb (List.mem_of_getElem? (i := 72) (by decide +kernel)) (by decide +kernel), g_tb (List.mem_of_getElem? (i := 612) (by decide +kernel)) (by decide +kernel), ⟨by decide, by decide, by decide +kernel⟩, by decide⟩
theorem dL_law_23 : decode cL_law 23 = .ok (.iload 4, 2) := by decide +kernel
theorem dL_law_25 : decode cL_law 25 = .ok (.aload_n 0, 1) := by decide +kernel
theorem dL_law_26 : decode cL_law 26 = .ok (.arraylength, 1) := by decide +kernel
theorem dL_law_27 : decode cL_law 27 = .ok (.iconst 4, 1) := by decide +kernel
theorem dL_law_28 : decode cL_law 28 = .ok (.isub, 1) := by decide +kernel
theorem dL_law_29 : decode cL_law 29 = .ok (.if_icmp .gt 1299, 3) := by decide +kernel
theorem dL_law_32 : decode cL_law 32 = .ok (.aload_n 0, 1) := by decide +kernel
theorem dL_law_33 : decode cL_law 33 = .ok (.iload 4, 2) := by decide +kernel
theorem dL_law_35 : decode cL_law 35 = .ok (.iaload, 1) := by decide +kernel
theorem dL_law_36 : decode cL_law 36 = .ok (.bipush 31, 2) := by decide +kernel
theorem dL_law_38 : decode cL_law 38 = .ok (.iand, 1) := by decide +kernel
theorem dL_law_39 : decode cL_law 39 = .ok (.tableswitch 1283 0 19 #[93, 149, 205, 273, 341, 421, 489, 557, 637, 681, 749, 817, 885, 941, 1016, 1091, 1159, 1215, 1228, 1269], 93) := by decide +kernel
theorem dL_law_132 : decode cL_law 132 = .ok (.aload_n 1, 1) := by decide +kernel
theorem dL_law_133 : decode cL_law 133 = .ok (.aload_n 0, 1) := by decide +kernel
theorem dL_law_134 : decode cL_law 134 = .ok (.iload 4, 2) := by decide +kernel
theorem dL_law_136 : decode cL_law 136 = .ok (.iconst 1, 1) := by decide +kernel
theorem dL_law_137 : decode cL_law 137 = .ok (.iadd, 1) := by decide +kernel
theorem dL_law_138 : decode cL_law 138 = .ok (.iaload, 1) := by decide +kernel
theorem dL_law_139 : decode cL_law 139 = .ok (.aload_n 3, 1) := by decide +kernel
theorem dL_law_140 : decode cL_law 140 = .ok (.invokestatic 75, 3) := by decide +kernel
theorem dL_law_143 : decode cL_law 143 = .ok (.istore 5, 2) := by decide +kernel
theorem dL_law_145 : decode cL_law 145 = .ok (.aload_n 2, 1) := by decide +kernel
theorem dL_law_146 : decode cL_law 146 = .ok (.aload_n 0, 1) := by decide +kernel
theorem dL_law_147 : decode cL_law 147 = .ok (.iload 4, 2) := by decide +kernel
theorem dL_law_149 : decode cL_law 149 = .ok (.iconst 1, 1) := by decide +kernel
theorem dL_law_150 : decode cL_law 150 = .ok (.iadd, 1) := by decide +kernel
theorem dL_law_151 : decode cL_law 151 = .ok (.iaload, 1) := by decide +kernel
theorem dL_law_152 : decode cL_law 152 = .ok (.invokevirtual 80, 3) := by decide +kernel
theorem dL_law_155 : decode cL_law 155 = .ok (.istore 6, 2) := by decide +kernel
theorem dL_law_157 : decode cL_law 157 = .ok (.aload_n 2, 1) := by decide +kernel
theorem dL_law_158 : decode cL_law 158 = .ok (.invokevirtual 81, 3) := by decide +kernel
theorem dL_law_161 : decode cL_law 161 = .ok (.iload 5, 2) := by decide +kernel
theorem dL_law_163 : decode cL_law 163 = .ok (.if_icmp .eq 5, 3) := by decide +kernel
theorem dL_law_166 : decode cL_law 166 = .ok (.iconst 0, 1) := by decide +kernel
theorem dL_law_167 : decode cL_law 167 = .ok (.ireturn, 1) := by decide +kernel
theorem dL_law_168 : decode cL_law 168 = .ok (.iload 5, 2) := by decide +kernel
theorem dL_law_170 : decode cL_law 170 = .ok (.ifCond .ne 15, 3) := by decide +kernel
theorem dL_law_173 : decode cL_law 173 = .ok (.aload_n 3, 1) := by decide +kernel
theorem dL_law_174 : decode cL_law 174 = .ok (.iconst 0, 1) := by decide +kernel
theorem dL_law_175 : decode cL_law 175 = .ok (.laload, 1) := by decide +kernel
theorem dL_law_176 : decode cL_law 176 = .ok (.iload 6, 2) := by decide +kernel
theorem dL_law_178 : decode cL_law 178 = .ok (.i2l, 1) := by decide +kernel
theorem dL_law_179 : decode cL_law 179 = .ok (.lcmp, 1) := by decide +kernel
theorem dL_law_180 : decode cL_law 180 = .ok (.ifCond .eq 5, 3) := by decide +kernel
theorem dL_law_183 : decode cL_law 183 = .ok (.iconst 0, 1) := by decide +kernel
theorem dL_law_184 : decode cL_law 184 = .ok (.ireturn, 1) := by decide +kernel
theorem dL_law_185 : decode cL_law 185 = .ok (.goto 1137, 3) := by decide +kernel
theorem dL_law_188 : decode cL_law 188 = .ok (.aload_n 1, 1) := by decide +kernel
theorem dL_law_189 : decode cL_law 189 = .ok (.aload_n 0, 1) := by decide +kernel
theorem dL_law_190 : decode cL_law 190 = .ok (.iload 4, 2) := by decide +kernel
theorem dL_law_192 : decode cL_law 192 = .ok (.iconst 1, 1) := by decide +kernel
theorem dL_law_193 : decode cL_law 193 = .ok (.iadd, 1) := by decide +kernel
theorem dL_law_194 : decode cL_law 194 = .ok (.iaload, 1) := by decide +kernel
theorem dL_law_195 : decode cL_law 195 = .ok (.aload_n 3, 1) := by decide +kernel
theorem dL_law_196 : decode cL_law 196 = .ok (.invokestatic 84, 3) := by decide +kernel
theorem dL_law_199 : decode cL_law 199 = .ok (.istore 5, 2) := by decide +kernel
theorem dL_law_201 : decode cL_law 201 = .ok (.aload_n 2, 1) := by decide +kernel
theorem dL_law_202 : decode cL_law 202 = .ok (.aload_n 0, 1) := by decide +kernel
theorem dL_law_203 : decode cL_law 203 = .ok (.iload 4, 2) := by decide +kernel
theorem dL_law_205 : decode cL_law 205 = .ok (.iconst 1, 1) := by decide +kernel
theorem dL_law_206 : decode cL_law 206 = .ok (.iadd, 1) := by decide +kernel
theorem dL_law_207 : decode cL_law 207 = .ok (.iaload, 1) := by decide +kernel
theorem dL_law_208 : decode cL_law 208 = .ok (.invokevirtual 86, 3) := by decide +kernel
theorem dL_law_211 : decode cL_law 211 = .ok (.istore 6, 2) := by decide +kernel
theorem dL_law_213 : decode cL_law 213 = .ok (.aload_n 2, 1) := by decide +kernel
theorem dL_law_214 : decode cL_law 214 = .ok (.invokevirtual 81, 3) := by decide +kernel
theorem dL_law_217 : decode cL_law 217 = .ok (.iload 5, 2) := by decide +kernel
theorem dL_law_219 : decode cL_law 219 = .ok (.if_icmp .eq 5, 3) := by decide +kernel
theorem dL_law_222 : decode cL_law 222 = .ok (.iconst 0, 1) := by decide +kernel
theorem dL_law_223 : decode cL_law 223 = .ok (.ireturn, 1) := by decide +kernel
theorem dL_law_224 : decode cL_law 224 = .ok (.iload 5, 2) := by decide +kernel
theorem dL_law_226 : decode cL_law 226 = .ok (.ifCond .ne 15, 3) := by decide +kernel
theorem dL_law_229 : decode cL_law 229 = .ok (.aload_n 3, 1) := by decide +kernel
theorem dL_law_230 : decode cL_law 230 = .ok (.iconst 0, 1) := by decide +kernel
theorem dL_law_231 : decode cL_law 231 = .ok (.laload, 1) := by decide +kernel
theorem dL_law_232 : decode cL_law 232 = .ok (.iload 6, 2) := by decide +kernel
theorem dL_law_234 : decode cL_law 234 = .ok (.i2l, 1) := by decide +kernel
theorem dL_law_235 : decode cL_law 235 = .ok (.lcmp, 1) := by decide +kernel
theorem dL_law_236 : decode cL_law 236 = .ok (.ifCond .eq 5, 3) := by decide +kernel
theorem dL_law_239 : decode cL_law 239 = .ok (.iconst 0, 1) := by decide +kernel
theorem dL_law_240 : decode cL_law 240 = .ok (.ireturn, 1) := by decide +kernel
theorem dL_law_241 : decode cL_law 241 = .ok (.goto 1081, 3) := by decide +kernel
theorem dL_law_244 : decode cL_law 244 = .ok (.aload_n 1, 1) := by decide +kernel
theorem dL_law_245 : decode cL_law 245 = .ok (.aload_n 0, 1) := by decide +kernel
theorem dL_law_246 : decode cL_law 246 = .ok (.iload 4, 2) := by decide +kernel
theorem dL_law_248 : decode cL_law 248 = .ok (.iconst 1, 1) := by decide +kernel
theorem dL_law_249 : decode cL_law 249 = .ok (.iadd, 1) := by decide +kernel
theorem dL_law_250 : decode cL_law 250 = .ok (.iaload, 1) := by decide +kernel
theorem dL_law_251 : decode cL_law 251 = .ok (.aload_n 0, 1) := by decide +kernel
theorem dL_law_252 : decode cL_law 252 = .ok (.iload 4, 2) := by decide +kernel
theorem dL_law_254 : decode cL_law 254 = .ok (.iconst 2, 1) := by decide +kernel
theorem dL_law_255 : decode cL_law 255 = .ok (.iadd, 1) := by decide +kernel
theorem dL_law_256 : decode cL_law 256 = .ok (.iaload, 1) := by decide +kernel
theorem dL_law_257 : decode cL_law 257 = .ok (.aload_n 3, 1) := by decide +kernel
theorem dL_law_258 : decode cL_law 258 = .ok (.invokestatic 87, 3) := by decide +kernel
theorem dL_law_261 : decode cL_law 261 = .ok (.istore 5, 2) := by decide +kernel
theorem dL_law_263 : decode cL_law 263 = .ok (.aload_n 2, 1) := by decide +kernel
theorem dL_law_264 : decode cL_law 264 = .ok (.aload_n 0, 1) := by decide +kernel
theorem dL_law_265 : decode cL_law 265 = .ok (.iload 4, 2) := by decide +kernel
theorem dL_law_267 : decode cL_law 267 = .ok (.iconst 1, 1) := by decide +kernel
theorem dL_law_268 : decode cL_law 268 = .ok (.iadd, 1) := by decide +kernel
theorem dL_law_269 : decode cL_law 269 = .ok (.iaload, 1) := by decide +kernel
theorem dL_law_270 : decode cL_law 270 = .ok (.aload_n 0, 1) := by decide +kernel
theorem dL_law_271 : decode cL_law 271 = .ok (.iload 4, 2) := by decide +kernel
theorem dL_law_273 : decode cL_law 273 = .ok (.iconst 2, 1) := by decide +kernel
theorem dL_law_274 : decode cL_law 274 = .ok (.iadd, 1) := by decide +kernel
theorem dL_law_275 : decode cL_law 275 = .ok (.iaload, 1) := by decide +kernel
theorem dL_law_276 : decode cL_law 276 = .ok (.invokevirtual 90, 3) := by decide +kernel
theorem dL_law_279 : decode cL_law 279 = .ok (.istore 6, 2) := by decide +kernel
theorem dL_law_281 : decode cL_law 281 = .ok (.aload_n 2, 1) := by decide +kernel
theorem dL_law_282 : decode cL_law 282 = .ok (.invokevirtual 81, 3) := by decide +kernel
theorem dL_law_285 : decode cL_law 285 = .ok (.iload 5, 2) := by decide +kernel
theorem dL_law_287 : decode cL_law 287 = .ok (.if_icmp .eq 5, 3) := by decide +kernel
theorem dL_law_290 : decode cL_law 290 = .ok (.iconst 0, 1) := by decide +kernel
theorem dL_law_291 : decode cL_law 291 = .ok (.ireturn, 1) := by decide +kernel
theorem dL_law_292 : decode cL_law 292 = .ok (.iload 5, 2) := by decide +kernel
theorem dL_law_294 : decode cL_law 294 = .ok (.ifCond .ne 15, 3) := by decide +kernel
theorem dL_law_297 : decode cL_law 297 = .ok (.aload_n 3, 1) := by decide +kernel
theorem dL_law_298 : decode cL_law 298 = .ok (.iconst 0, 1) := by decide +kernel
theorem dL_law_299 : decode cL_law 299 = .ok (.laload, 1) := by decide +kernel
theorem dL_law_300 : decode cL_law 300 = .ok (.iload 6, 2) := by decide +kernel
theorem dL_law_302 : decode cL_law 302 = .ok (.i2l, 1) := by decide +kernel
theorem dL_law_303 : decode cL_law 303 = .ok (.lcmp, 1) := by decide +kernel
theorem dL_law_304 : decode cL_law 304 = .ok (.ifCond .eq 5, 3) := by decide +kernel
theorem dL_law_307 : decode cL_law 307 = .ok (.iconst 0, 1) := by decide +kernel
theorem dL_law_308 : decode cL_law 308 = .ok (.ireturn, 1) := by decide +kernel
theorem dL_law_309 : decode cL_law 309 = .ok (.goto 1013, 3) := by decide +kernel
theorem dL_law_312 : decode cL_law 312 = .ok (.aload_n 1, 1) := by decide +kernel
theorem dL_law_313 : decode cL_law 313 = .ok (.aload_n 0, 1) := by decide +kernel
theorem dL_law_314 : decode cL_law 314 = .ok (.iload 4, 2) := by decide +kernel
theorem dL_law_316 : decode cL_law 316 = .ok (.iconst 1, 1) := by decide +kernel
theorem dL_law_317 : decode cL_law 317 = .ok (.iadd, 1) := by decide +kernel
theorem dL_law_318 : decode cL_law 318 = .ok (.iaload, 1) := by decide +kernel
theorem dL_law_319 : decode cL_law 319 = .ok (.aload_n 0, 1) := by decide +kernel
theorem dL_law_320 : decode cL_law 320 = .ok (.iload 4, 2) := by decide +kernel
theorem dL_law_322 : decode cL_law 322 = .ok (.iconst 2, 1) := by decide +kernel
theorem dL_law_323 : decode cL_law 323 = .ok (.iadd, 1) := by decide +kernel
theorem dL_law_324 : decode cL_law 324 = .ok (.iaload, 1) := by decide +kernel
theorem dL_law_325 : decode cL_law 325 = .ok (.aload_n 3, 1) := by decide +kernel
theorem dL_law_326 : decode cL_law 326 = .ok (.invokestatic 91, 3) := by decide +kernel
theorem dL_law_329 : decode cL_law 329 = .ok (.istore 5, 2) := by decide +kernel
theorem dL_law_331 : decode cL_law 331 = .ok (.aload_n 2, 1) := by decide +kernel
theorem dL_law_332 : decode cL_law 332 = .ok (.aload_n 0, 1) := by decide +kernel
theorem dL_law_333 : decode cL_law 333 = .ok (.iload 4, 2) := by decide +kernel
theorem dL_law_335 : decode cL_law 335 = .ok (.iconst 1, 1) := by decide +kernel
theorem dL_law_336 : decode cL_law 336 = .ok (.iadd, 1) := by decide +kernel
theorem dL_law_337 : decode cL_law 337 = .ok (.iaload, 1) := by decide +kernel
theorem dL_law_338 : decode cL_law 338 = .ok (.aload_n 0, 1) := by decide +kernel
theorem dL_law_339 : decode cL_law 339 = .ok (.iload 4, 2) := by decide +kernel
theorem dL_law_341 : decode cL_law 341 = .ok (.iconst 2, 1) := by decide +kernel
theorem dL_law_342 : decode cL_law 342 = .ok (.iadd, 1) := by decide +kernel
theorem dL_law_343 : decode cL_law 343 = .ok (.iaload, 1) := by decide +kernel
theorem dL_law_344 : decode cL_law 344 = .ok (.invokevirtual 93, 3) := by decide +kernel
theorem dL_law_347 : decode cL_law 347 = .ok (.istore 6, 2) := by decide +kernel
theorem dL_law_349 : decode cL_law 349 = .ok (.aload_n 2, 1) := by decide +kernel
theorem dL_law_350 : decode cL_law 350 = .ok (.invokevirtual 81, 3) := by decide +kernel
theorem dL_law_353 : decode cL_law 353 = .ok (.iload 5, 2) := by decide +kernel
theorem dL_law_355 : decode cL_law 355 = .ok (.if_icmp .eq 5, 3) := by decide +kernel
theorem dL_law_358 : decode cL_law 358 = .ok (.iconst 0, 1) := by decide +kernel
theorem dL_law_359 : decode cL_law 359 = .ok (.ireturn, 1) := by decide +kernel
theorem dL_law_360 : decode cL_law 360 = .ok (.iload 5, 2) := by decide +kernel
theorem dL_law_362 : decode cL_law 362 = .ok (.ifCond .ne 15, 3) := by decide +kernel
theorem dL_law_365 : decode cL_law 365 = .ok (.aload_n 3, 1) := by decide +kernel
theorem dL_law_366 : decode cL_law 366 = .ok (.iconst 0, 1) := by decide +kernel
theorem dL_law_367 : decode cL_law 367 = .ok (.laload, 1) := by decide +kernel
theorem dL_law_368 : decode cL_law 368 = .ok (.iload 6, 2) := by decide +kernel
theorem dL_law_370 : decode cL_law 370 = .ok (.i2l, 1) := by decide +kernel
theorem dL_law_371 : decode cL_law 371 = .ok (.lcmp, 1) := by decide +kernel
theorem dL_law_372 : decode cL_law 372 = .ok (.ifCond .eq 5, 3) := by decide +kernel
theorem dL_law_375 : decode cL_law 375 = .ok (.iconst 0, 1) := by decide +kernel
theorem dL_law_376 : decode cL_law 376 = .ok (.ireturn, 1) := by decide +kernel
theorem dL_law_377 : decode cL_law 377 = .ok (.goto 945, 3) := by decide +kernel
theorem dL_law_380 : decode cL_law 380 = .ok (.aload_n 1, 1) := by decide +kernel
theorem dL_law_381 : decode cL_law 381 = .ok (.aload_n 0, 1) := by decide +kernel
theorem dL_law_382 : decode cL_law 382 = .ok (.iload 4, 2) := by decide +kernel
theorem dL_law_384 : decode cL_law 384 = .ok (.iconst 1, 1) := by decide +kernel
theorem dL_law_385 : decode cL_law 385 = .ok (.iadd, 1) := by decide +kernel
theorem dL_law_386 : decode cL_law 386 = .ok (.iaload, 1) := by decide +kernel
theorem dL_law_387 : decode cL_law 387 = .ok (.aload_n 0, 1) := by decide +kernel
theorem dL_law_388 : decode cL_law 388 = .ok (.iload 4, 2) := by decide +kernel
theorem dL_law_390 : decode cL_law 390 = .ok (.iconst 2, 1) := by decide +kernel
theorem dL_law_391 : decode cL_law 391 = .ok (.iadd, 1) := by decide +kernel
theorem dL_law_392 : decode cL_law 392 = .ok (.iaload, 1) := by decide +kernel
theorem dL_law_393 : decode cL_law 393 = .ok (.aload_n 0, 1) := by decide +kernel
theorem dL_law_394 : decode cL_law 394 = .ok (.iload 4, 2) := by decide +kernel
theorem dL_law_396 : decode cL_law 396 = .ok (.iconst 3, 1) := by decide +kernel
theorem dL_law_397 : decode cL_law 397 = .ok (.iadd, 1) := by decide +kernel
theorem dL_law_398 : decode cL_law 398 = .ok (.iaload, 1) := by decide +kernel
theorem dL_law_399 : decode cL_law 399 = .ok (.aload_n 3, 1) := by decide +kernel
theorem dL_law_400 : decode cL_law 400 = .ok (.invokestatic 94, 3) := by decide +kernel
theorem dL_law_403 : decode cL_law 403 = .ok (.istore 5, 2) := by decide +kernel
theorem dL_law_405 : decode cL_law 405 = .ok (.aload_n 2, 1) := by decide +kernel
theorem dL_law_406 : decode cL_law 406 = .ok (.aload_n 0, 1) := by decide +kernel
theorem dL_law_407 : decode cL_law 407 = .ok (.iload 4, 2) := by decide +kernel
theorem dL_law_409 : decode cL_law 409 = .ok (.iconst 1, 1) := by decide +kernel
theorem dL_law_410 : decode cL_law 410 = .ok (.iadd, 1) := by decide +kernel
theorem dL_law_411 : decode cL_law 411 = .ok (.iaload, 1) := by decide +kernel
theorem dL_law_412 : decode cL_law 412 = .ok (.aload_n 0, 1) := by decide +kernel
theorem dL_law_413 : decode cL_law 413 = .ok (.iload 4, 2) := by decide +kernel
theorem dL_law_415 : decode cL_law 415 = .ok (.iconst 2, 1) := by decide +kernel
theorem dL_law_416 : decode cL_law 416 = .ok (.iadd, 1) := by decide +kernel
theorem dL_law_417 : decode cL_law 417 = .ok (.iaload, 1) := by decide +kernel
theorem dL_law_418 : decode cL_law 418 = .ok (.aload_n 0, 1) := by decide +kernel
theorem dL_law_419 : decode cL_law 419 = .ok (.iload 4, 2) := by decide +kernel
theorem dL_law_421 : decode cL_law 421 = .ok (.iconst 3, 1) := by decide +kernel
theorem dL_law_422 : decode cL_law 422 = .ok (.iadd, 1) := by decide +kernel
theorem dL_law_423 : decode cL_law 423 = .ok (.iaload, 1) := by decide +kernel
theorem dL_law_424 : decode cL_law 424 = .ok (.invokevirtual 97, 3) := by decide +kernel
theorem dL_law_427 : decode cL_law 427 = .ok (.istore 6, 2) := by decide +kernel
theorem dL_law_429 : decode cL_law 429 = .ok (.aload_n 2, 1) := by decide +kernel
theorem dL_law_430 : decode cL_law 430 = .ok (.invokevirtual 81, 3) := by decide +kernel
theorem dL_law_433 : decode cL_law 433 = .ok (.iload 5, 2) := by decide +kernel
theorem dL_law_435 : decode cL_law 435 = .ok (.if_icmp .eq 5, 3) := by decide +kernel
theorem dL_law_438 : decode cL_law 438 = .ok (.iconst 0, 1) := by decide +kernel
theorem dL_law_439 : decode cL_law 439 = .ok (.ireturn, 1) := by decide +kernel
theorem dL_law_440 : decode cL_law 440 = .ok (.iload 5, 2) := by decide +kernel
theorem dL_law_442 : decode cL_law 442 = .ok (.ifCond .ne 15, 3) := by decide +kernel
theorem dL_law_445 : decode cL_law 445 = .ok (.aload_n 3, 1) := by decide +kernel
theorem dL_law_446 : decode cL_law 446 = .ok (.iconst 0, 1) := by decide +kernel
theorem dL_law_447 : decode cL_law 447 = .ok (.laload, 1) := by decide +kernel
theorem dL_law_448 : decode cL_law 448 = .ok (.iload 6, 2) := by decide +kernel
theorem dL_law_450 : decode cL_law 450 = .ok (.i2l, 1) := by decide +kernel
theorem dL_law_451 : decode cL_law 451 = .ok (.lcmp, 1) := by decide +kernel
theorem dL_law_452 : decode cL_law 452 = .ok (.ifCond .eq 5, 3) := by decide +kernel
theorem dL_law_455 : decode cL_law 455 = .ok (.iconst 0, 1) := by decide +kernel
theorem dL_law_456 : decode cL_law 456 = .ok (.ireturn, 1) := by decide +kernel
theorem dL_law_457 : decode cL_law 457 = .ok (.goto 865, 3) := by decide +kernel
theorem dL_law_460 : decode cL_law 460 = .ok (.aload_n 1, 1) := by decide +kernel
theorem dL_law_461 : decode cL_law 461 = .ok (.aload_n 0, 1) := by decide +kernel
theorem dL_law_462 : decode cL_law 462 = .ok (.iload 4, 2) := by decide +kernel
theorem dL_law_464 : decode cL_law 464 = .ok (.iconst 1, 1) := by decide +kernel
theorem dL_law_465 : decode cL_law 465 = .ok (.iadd, 1) := by decide +kernel
theorem dL_law_466 : decode cL_law 466 = .ok (.iaload, 1) := by decide +kernel
theorem dL_law_467 : decode cL_law 467 = .ok (.aload_n 0, 1) := by decide +kernel
theorem dL_law_468 : decode cL_law 468 = .ok (.iload 4, 2) := by decide +kernel
theorem dL_law_470 : decode cL_law 470 = .ok (.iconst 2, 1) := by decide +kernel
theorem dL_law_471 : decode cL_law 471 = .ok (.iadd, 1) := by decide +kernel
theorem dL_law_472 : decode cL_law 472 = .ok (.iaload, 1) := by decide +kernel
theorem dL_law_473 : decode cL_law 473 = .ok (.aload_n 3, 1) := by decide +kernel
theorem dL_law_474 : decode cL_law 474 = .ok (.invokestatic 98, 3) := by decide +kernel
theorem dL_law_477 : decode cL_law 477 = .ok (.istore 5, 2) := by decide +kernel
theorem dL_law_479 : decode cL_law 479 = .ok (.aload_n 2, 1) := by decide +kernel
theorem dL_law_480 : decode cL_law 480 = .ok (.aload_n 0, 1) := by decide +kernel
theorem dL_law_481 : decode cL_law 481 = .ok (.iload 4, 2) := by decide +kernel
theorem dL_law_483 : decode cL_law 483 = .ok (.iconst 1, 1) := by decide +kernel
theorem dL_law_484 : decode cL_law 484 = .ok (.iadd, 1) := by decide +kernel
theorem dL_law_485 : decode cL_law 485 = .ok (.iaload, 1) := by decide +kernel
theorem dL_law_486 : decode cL_law 486 = .ok (.aload_n 0, 1) := by decide +kernel
theorem dL_law_487 : decode cL_law 487 = .ok (.iload 4, 2) := by decide +kernel
theorem dL_law_489 : decode cL_law 489 = .ok (.iconst 2, 1) := by decide +kernel
theorem dL_law_490 : decode cL_law 490 = .ok (.iadd, 1) := by decide +kernel
theorem dL_law_491 : decode cL_law 491 = .ok (.iaload, 1) := by decide +kernel
theorem dL_law_492 : decode cL_law 492 = .ok (.invokevirtual 100, 3) := by decide +kernel
theorem dL_law_495 : decode cL_law 495 = .ok (.istore 6, 2) := by decide +kernel
theorem dL_law_497 : decode cL_law 497 = .ok (.aload_n 2, 1) := by decide +kernel
theorem dL_law_498 : decode cL_law 498 = .ok (.invokevirtual 81, 3) := by decide +kernel
theorem dL_law_501 : decode cL_law 501 = .ok (.iload 5, 2) := by decide +kernel
theorem dL_law_503 : decode cL_law 503 = .ok (.if_icmp .eq 5, 3) := by decide +kernel
theorem dL_law_506 : decode cL_law 506 = .ok (.iconst 0, 1) := by decide +kernel
theorem dL_law_507 : decode cL_law 507 = .ok (.ireturn, 1) := by decide +kernel
theorem dL_law_508 : decode cL_law 508 = .ok (.iload 5, 2) := by decide +kernel
theorem dL_law_510 : decode cL_law 510 = .ok (.ifCond .ne 15, 3) := by decide +kernel
theorem dL_law_513 : decode cL_law 513 = .ok (.aload_n 3, 1) := by decide +kernel
theorem dL_law_514 : decode cL_law 514 = .ok (.iconst 0, 1) := by decide +kernel
theorem dL_law_515 : decode cL_law 515 = .ok (.laload, 1) := by decide +kernel
theorem dL_law_516 : decode cL_law 516 = .ok (.iload 6, 2) := by decide +kernel
theorem dL_law_518 : decode cL_law 518 = .ok (.i2l, 1) := by decide +kernel
theorem dL_law_519 : decode cL_law 519 = .ok (.lcmp, 1) := by decide +kernel
theorem dL_law_520 : decode cL_law 520 = .ok (.ifCond .eq 5, 3) := by decide +kernel
theorem dL_law_523 : decode cL_law 523 = .ok (.iconst 0, 1) := by decide +kernel
theorem dL_law_524 : decode cL_law 524 = .ok (.ireturn, 1) := by decide +kernel
theorem dL_law_525 : decode cL_law 525 = .ok (.goto 797, 3) := by decide +kernel
theorem dL_law_528 : decode cL_law 528 = .ok (.aload_n 1, 1) := by decide +kernel
theorem dL_law_529 : decode cL_law 529 = .ok (.aload_n 0, 1) := by decide +kernel
theorem dL_law_530 : decode cL_law 530 = .ok (.iload 4, 2) := by decide +kernel
theorem dL_law_532 : decode cL_law 532 = .ok (.iconst 1, 1) := by decide +kernel
theorem dL_law_533 : decode cL_law 533 = .ok (.iadd, 1) := by decide +kernel
theorem dL_law_534 : decode cL_law 534 = .ok (.iaload, 1) := by decide +kernel
theorem dL_law_535 : decode cL_law 535 = .ok (.aload_n 0, 1) := by decide +kernel
theorem dL_law_536 : decode cL_law 536 = .ok (.iload 4, 2) := by decide +kernel
theorem dL_law_538 : decode cL_law 538 = .ok (.iconst 2, 1) := by decide +kernel
theorem dL_law_539 : decode cL_law 539 = .ok (.iadd, 1) := by decide +kernel
theorem dL_law_540 : decode cL_law 540 = .ok (.iaload, 1) := by decide +kernel
theorem dL_law_541 : decode cL_law 541 = .ok (.aload_n 3, 1) := by decide +kernel
theorem dL_law_542 : decode cL_law 542 = .ok (.invokestatic 101, 3) := by decide +kernel
theorem dL_law_545 : decode cL_law 545 = .ok (.istore 5, 2) := by decide +kernel
theorem dL_law_547 : decode cL_law 547 = .ok (.aload_n 2, 1) := by decide +kernel
theorem dL_law_548 : decode cL_law 548 = .ok (.aload_n 0, 1) := by decide +kernel
theorem dL_law_549 : decode cL_law 549 = .ok (.iload 4, 2) := by decide +kernel
theorem dL_law_551 : decode cL_law 551 = .ok (.iconst 1, 1) := by decide +kernel
theorem dL_law_552 : decode cL_law 552 = .ok (.iadd, 1) := by decide +kernel
theorem dL_law_553 : decode cL_law 553 = .ok (.iaload, 1) := by decide +kernel
theorem dL_law_554 : decode cL_law 554 = .ok (.aload_n 0, 1) := by decide +kernel
theorem dL_law_555 : decode cL_law 555 = .ok (.iload 4, 2) := by decide +kernel
theorem dL_law_557 : decode cL_law 557 = .ok (.iconst 2, 1) := by decide +kernel
theorem dL_law_558 : decode cL_law 558 = .ok (.iadd, 1) := by decide +kernel
theorem dL_law_559 : decode cL_law 559 = .ok (.iaload, 1) := by decide +kernel
theorem dL_law_560 : decode cL_law 560 = .ok (.invokevirtual 103, 3) := by decide +kernel
theorem dL_law_563 : decode cL_law 563 = .ok (.istore 6, 2) := by decide +kernel
theorem dL_law_565 : decode cL_law 565 = .ok (.aload_n 2, 1) := by decide +kernel
theorem dL_law_566 : decode cL_law 566 = .ok (.invokevirtual 81, 3) := by decide +kernel
theorem dL_law_569 : decode cL_law 569 = .ok (.iload 5, 2) := by decide +kernel
theorem dL_law_571 : decode cL_law 571 = .ok (.if_icmp .eq 5, 3) := by decide +kernel
theorem dL_law_574 : decode cL_law 574 = .ok (.iconst 0, 1) := by decide +kernel
theorem dL_law_575 : decode cL_law 575 = .ok (.ireturn, 1) := by decide +kernel
theorem dL_law_576 : decode cL_law 576 = .ok (.iload 5, 2) := by decide +kernel
theorem dL_law_578 : decode cL_law 578 = .ok (.ifCond .ne 15, 3) := by decide +kernel
theorem dL_law_581 : decode cL_law 581 = .ok (.aload_n 3, 1) := by decide +kernel
theorem dL_law_582 : decode cL_law 582 = .ok (.iconst 0, 1) := by decide +kernel
theorem dL_law_583 : decode cL_law 583 = .ok (.laload, 1) := by decide +kernel
theorem dL_law_584 : decode cL_law 584 = .ok (.iload 6, 2) := by decide +kernel
theorem dL_law_586 : decode cL_law 586 = .ok (.i2l, 1) := by decide +kernel
theorem dL_law_587 : decode cL_law 587 = .ok (.lcmp, 1) := by decide +kernel
theorem dL_law_588 : decode cL_law 588 = .ok (.ifCond .eq 5, 3) := by decide +kernel
theorem dL_law_591 : decode cL_law 591 = .ok (.iconst 0, 1) := by decide +kernel
theorem dL_law_592 : decode cL_law 592 = .ok (.ireturn, 1) := by decide +kernel
theorem dL_law_593 : decode cL_law 593 = .ok (.goto 729, 3) := by decide +kernel
theorem dL_law_596 : decode cL_law 596 = .ok (.aload_n 1, 1) := by decide +kernel
theorem dL_law_597 : decode cL_law 597 = .ok (.aload_n 0, 1) := by decide +kernel
theorem dL_law_598 : decode cL_law 598 = .ok (.iload 4, 2) := by decide +kernel
theorem dL_law_600 : decode cL_law 600 = .ok (.iconst 1, 1) := by decide +kernel
theorem dL_law_601 : decode cL_law 601 = .ok (.iadd, 1) := by decide +kernel
theorem dL_law_602 : decode cL_law 602 = .ok (.iaload, 1) := by decide +kernel
theorem dL_law_603 : decode cL_law 603 = .ok (.aload_n 0, 1) := by decide +kernel
theorem dL_law_604 : decode cL_law 604 = .ok (.iload 4, 2) := by decide +kernel
theorem dL_law_606 : decode cL_law 606 = .ok (.iconst 2, 1) := by decide +kernel
theorem dL_law_607 : decode cL_law 607 = .ok (.iadd, 1) := by decide +kernel
theorem dL_law_608 : decode cL_law 608 = .ok (.iaload, 1) := by decide +kernel
theorem dL_law_609 : decode cL_law 609 = .ok (.aload_n 0, 1) := by decide +kernel
theorem dL_law_610 : decode cL_law 610 = .ok (.iload 4, 2) := by decide +kernel
theorem dL_law_612 : decode cL_law 612 = .ok (.iconst 3, 1) := by decide +kernel
theorem dL_law_613 : decode cL_law 613 = .ok (.iadd, 1) := by decide +kernel
theorem dL_law_614 : decode cL_law 614 = .ok (.iaload, 1) := by decide +kernel
theorem dL_law_615 : decode cL_law 615 = .ok (.aload_n 3, 1) := by decide +kernel
theorem dL_law_616 : decode cL_law 616 = .ok (.invokestatic 104, 3) := by decide +kernel
theorem dL_law_619 : decode cL_law 619 = .ok (.istore 5, 2) := by decide +kernel
theorem dL_law_621 : decode cL_law 621 = .ok (.aload_n 2, 1) := by decide +kernel
theorem dL_law_622 : decode cL_law 622 = .ok (.aload_n 0, 1) := by decide +kernel
theorem dL_law_623 : decode cL_law 623 = .ok (.iload 4, 2) := by decide +kernel
theorem dL_law_625 : decode cL_law 625 = .ok (.iconst 1, 1) := by decide +kernel
theorem dL_law_626 : decode cL_law 626 = .ok (.iadd, 1) := by decide +kernel
theorem dL_law_627 : decode cL_law 627 = .ok (.iaload, 1) := by decide +kernel
theorem dL_law_628 : decode cL_law 628 = .ok (.aload_n 0, 1) := by decide +kernel
theorem dL_law_629 : decode cL_law 629 = .ok (.iload 4, 2) := by decide +kernel
theorem dL_law_631 : decode cL_law 631 = .ok (.iconst 2, 1) := by decide +kernel
theorem dL_law_632 : decode cL_law 632 = .ok (.iadd, 1) := by decide +kernel
theorem dL_law_633 : decode cL_law 633 = .ok (.iaload, 1) := by decide +kernel
theorem dL_law_634 : decode cL_law 634 = .ok (.aload_n 0, 1) := by decide +kernel
theorem dL_law_635 : decode cL_law 635 = .ok (.iload 4, 2) := by decide +kernel
theorem dL_law_637 : decode cL_law 637 = .ok (.iconst 3, 1) := by decide +kernel
theorem dL_law_638 : decode cL_law 638 = .ok (.iadd, 1) := by decide +kernel
theorem dL_law_639 : decode cL_law 639 = .ok (.iaload, 1) := by decide +kernel
theorem dL_law_640 : decode cL_law 640 = .ok (.invokevirtual 106, 3) := by decide +kernel
theorem dL_law_643 : decode cL_law 643 = .ok (.istore 6, 2) := by decide +kernel
theorem dL_law_645 : decode cL_law 645 = .ok (.aload_n 2, 1) := by decide +kernel
theorem dL_law_646 : decode cL_law 646 = .ok (.invokevirtual 81, 3) := by decide +kernel
theorem dL_law_649 : decode cL_law 649 = .ok (.iload 5, 2) := by decide +kernel
theorem dL_law_651 : decode cL_law 651 = .ok (.if_icmp .eq 5, 3) := by decide +kernel
theorem dL_law_654 : decode cL_law 654 = .ok (.iconst 0, 1) := by decide +kernel
theorem dL_law_655 : decode cL_law 655 = .ok (.ireturn, 1) := by decide +kernel
theorem dL_law_656 : decode cL_law 656 = .ok (.iload 5, 2) := by decide +kernel
theorem dL_law_658 : decode cL_law 658 = .ok (.ifCond .ne 15, 3) := by decide +kernel
theorem dL_law_661 : decode cL_law 661 = .ok (.aload_n 3, 1) := by decide +kernel
theorem dL_law_662 : decode cL_law 662 = .ok (.iconst 0, 1) := by decide +kernel
theorem dL_law_663 : decode cL_law 663 = .ok (.laload, 1) := by decide +kernel
theorem dL_law_664 : decode cL_law 664 = .ok (.iload 6, 2) := by decide +kernel
theorem dL_law_666 : decode cL_law 666 = .ok (.i2l, 1) := by decide +kernel
theorem dL_law_667 : decode cL_law 667 = .ok (.lcmp, 1) := by decide +kernel
theorem dL_law_668 : decode cL_law 668 = .ok (.ifCond .eq 5, 3) := by decide +kernel
theorem dL_law_671 : decode cL_law 671 = .ok (.iconst 0, 1) := by decide +kernel
theorem dL_law_672 : decode cL_law 672 = .ok (.ireturn, 1) := by decide +kernel
theorem dL_law_673 : decode cL_law 673 = .ok (.goto 649, 3) := by decide +kernel
theorem dL_law_676 : decode cL_law 676 = .ok (.aload_n 1, 1) := by decide +kernel
theorem dL_law_677 : decode cL_law 677 = .ok (.aload_n 3, 1) := by decide +kernel
theorem dL_law_678 : decode cL_law 678 = .ok (.invokestatic 107, 3) := by decide +kernel
theorem dL_law_681 : decode cL_law 681 = .ok (.istore 5, 2) := by decide +kernel
theorem dL_law_683 : decode cL_law 683 = .ok (.aload_n 2, 1) := by decide +kernel
theorem dL_law_684 : decode cL_law 684 = .ok (.invokevirtual 110, 3) := by decide +kernel
theorem dL_law_687 : decode cL_law 687 = .ok (.istore 6, 2) := by decide +kernel
theorem dL_law_689 : decode cL_law 689 = .ok (.aload_n 2, 1) := by decide +kernel
theorem dL_law_690 : decode cL_law 690 = .ok (.invokevirtual 81, 3) := by decide +kernel
theorem dL_law_693 : decode cL_law 693 = .ok (.iload 5, 2) := by decide +kernel
theorem dL_law_695 : decode cL_law 695 = .ok (.if_icmp .eq 5, 3) := by decide +kernel
theorem dL_law_698 : decode cL_law 698 = .ok (.iconst 0, 1) := by decide +kernel
theorem dL_law_699 : decode cL_law 699 = .ok (.ireturn, 1) := by decide +kernel
theorem dL_law_700 : decode cL_law 700 = .ok (.iload 5, 2) := by decide +kernel
theorem dL_law_702 : decode cL_law 702 = .ok (.ifCond .ne 15, 3) := by decide +kernel
theorem dL_law_705 : decode cL_law 705 = .ok (.aload_n 3, 1) := by decide +kernel
theorem dL_law_706 : decode cL_law 706 = .ok (.iconst 0, 1) := by decide +kernel
theorem dL_law_707 : decode cL_law 707 = .ok (.laload, 1) := by decide +kernel
theorem dL_law_708 : decode cL_law 708 = .ok (.iload 6, 2) := by decide +kernel
theorem dL_law_710 : decode cL_law 710 = .ok (.i2l, 1) := by decide +kernel
theorem dL_law_711 : decode cL_law 711 = .ok (.lcmp, 1) := by decide +kernel
theorem dL_law_712 : decode cL_law 712 = .ok (.ifCond .eq 5, 3) := by decide +kernel
theorem dL_law_715 : decode cL_law 715 = .ok (.iconst 0, 1) := by decide +kernel
theorem dL_law_716 : decode cL_law 716 = .ok (.ireturn, 1) := by decide +kernel
theorem dL_law_717 : decode cL_law 717 = .ok (.goto 605, 3) := by decide +kernel
theorem dL_law_720 : decode cL_law 720 = .ok (.aload_n 1, 1) := by decide +kernel
theorem dL_law_721 : decode cL_law 721 = .ok (.aload_n 0, 1) := by decide +kernel
theorem dL_law_722 : decode cL_law 722 = .ok (.iload 4, 2) := by decide +kernel
theorem dL_law_724 : decode cL_law 724 = .ok (.iconst 1, 1) := by decide +kernel
theorem dL_law_725 : decode cL_law 725 = .ok (.iadd, 1) := by decide +kernel
theorem dL_law_726 : decode cL_law 726 = .ok (.iaload, 1) := by decide +kernel
theorem dL_law_727 : decode cL_law 727 = .ok (.aload_n 0, 1) := by decide +kernel
theorem dL_law_728 : decode cL_law 728 = .ok (.iload 4, 2) := by decide +kernel
theorem dL_law_730 : decode cL_law 730 = .ok (.iconst 2, 1) := by decide +kernel
theorem dL_law_731 : decode cL_law 731 = .ok (.iadd, 1) := by decide +kernel
theorem dL_law_732 : decode cL_law 732 = .ok (.iaload, 1) := by decide +kernel
theorem dL_law_733 : decode cL_law 733 = .ok (.aload_n 3, 1) := by decide +kernel
theorem dL_law_734 : decode cL_law 734 = .ok (.invokestatic 111, 3) := by decide +kernel
theorem dL_law_737 : decode cL_law 737 = .ok (.istore 5, 2) := by decide +kernel
theorem dL_law_739 : decode cL_law 739 = .ok (.aload_n 2, 1) := by decide +kernel
theorem dL_law_740 : decode cL_law 740 = .ok (.aload_n 0, 1) := by decide +kernel
theorem dL_law_741 : decode cL_law 741 = .ok (.iload 4, 2) := by decide +kernel
theorem dL_law_743 : decode cL_law 743 = .ok (.iconst 1, 1) := by decide +kernel
theorem dL_law_744 : decode cL_law 744 = .ok (.iadd, 1) := by decide +kernel
theorem dL_law_745 : decode cL_law 745 = .ok (.iaload, 1) := by decide +kernel
theorem dL_law_746 : decode cL_law 746 = .ok (.aload_n 0, 1) := by decide +kernel
theorem dL_law_747 : decode cL_law 747 = .ok (.iload 4, 2) := by decide +kernel
theorem dL_law_749 : decode cL_law 749 = .ok (.iconst 2, 1) := by decide +kernel
theorem dL_law_750 : decode cL_law 750 = .ok (.iadd, 1) := by decide +kernel
theorem dL_law_751 : decode cL_law 751 = .ok (.iaload, 1) := by decide +kernel
theorem dL_law_752 : decode cL_law 752 = .ok (.invokevirtual 113, 3) := by decide +kernel
theorem dL_law_755 : decode cL_law 755 = .ok (.istore 6, 2) := by decide +kernel
theorem dL_law_757 : decode cL_law 757 = .ok (.aload_n 2, 1) := by decide +kernel
theorem dL_law_758 : decode cL_law 758 = .ok (.invokevirtual 81, 3) := by decide +kernel
theorem dL_law_761 : decode cL_law 761 = .ok (.iload 5, 2) := by decide +kernel
theorem dL_law_763 : decode cL_law 763 = .ok (.if_icmp .eq 5, 3) := by decide +kernel
theorem dL_law_766 : decode cL_law 766 = .ok (.iconst 0, 1) := by decide +kernel
theorem dL_law_767 : decode cL_law 767 = .ok (.ireturn, 1) := by decide +kernel
theorem dL_law_768 : decode cL_law 768 = .ok (.iload 5, 2) := by decide +kernel
theorem dL_law_770 : decode cL_law 770 = .ok (.ifCond .ne 15, 3) := by decide +kernel
theorem dL_law_773 : decode cL_law 773 = .ok (.aload_n 3, 1) := by decide +kernel
theorem dL_law_774 : decode cL_law 774 = .ok (.iconst 0, 1) := by decide +kernel
theorem dL_law_775 : decode cL_law 775 = .ok (.laload, 1) := by decide +kernel
theorem dL_law_776 : decode cL_law 776 = .ok (.iload 6, 2) := by decide +kernel
theorem dL_law_778 : decode cL_law 778 = .ok (.i2l, 1) := by decide +kernel
theorem dL_law_779 : decode cL_law 779 = .ok (.lcmp, 1) := by decide +kernel
theorem dL_law_780 : decode cL_law 780 = .ok (.ifCond .eq 5, 3) := by decide +kernel
theorem dL_law_783 : decode cL_law 783 = .ok (.iconst 0, 1) := by decide +kernel
theorem dL_law_784 : decode cL_law 784 = .ok (.ireturn, 1) := by decide +kernel
theorem dL_law_785 : decode cL_law 785 = .ok (.goto 537, 3) := by decide +kernel
theorem dL_law_788 : decode cL_law 788 = .ok (.aload_n 1, 1) := by decide +kernel
theorem dL_law_789 : decode cL_law 789 = .ok (.aload_n 0, 1) := by decide +kernel
theorem dL_law_790 : decode cL_law 790 = .ok (.iload 4, 2) := by decide +kernel
theorem dL_law_792 : decode cL_law 792 = .ok (.iconst 1, 1) := by decide +kernel
theorem dL_law_793 : decode cL_law 793 = .ok (.iadd, 1) := by decide +kernel
theorem dL_law_794 : decode cL_law 794 = .ok (.iaload, 1) := by decide +kernel
theorem dL_law_795 : decode cL_law 795 = .ok (.aload_n 0, 1) := by decide +kernel
theorem dL_law_796 : decode cL_law 796 = .ok (.iload 4, 2) := by decide +kernel
theorem dL_law_798 : decode cL_law 798 = .ok (.iconst 2, 1) := by decide +kernel
theorem dL_law_799 : decode cL_law 799 = .ok (.iadd, 1) := by decide +kernel
theorem dL_law_800 : decode cL_law 800 = .ok (.iaload, 1) := by decide +kernel
theorem dL_law_801 : decode cL_law 801 = .ok (.aload_n 3, 1) := by decide +kernel
theorem dL_law_802 : decode cL_law 802 = .ok (.invokestatic 114, 3) := by decide +kernel
theorem dL_law_805 : decode cL_law 805 = .ok (.istore 5, 2) := by decide +kernel
theorem dL_law_807 : decode cL_law 807 = .ok (.aload_n 2, 1) := by decide +kernel
theorem dL_law_808 : decode cL_law 808 = .ok (.aload_n 0, 1) := by decide +kernel
theorem dL_law_809 : decode cL_law 809 = .ok (.iload 4, 2) := by decide +kernel
theorem dL_law_811 : decode cL_law 811 = .ok (.iconst 1, 1) := by decide +kernel
theorem dL_law_812 : decode cL_law 812 = .ok (.iadd, 1) := by decide +kernel
theorem dL_law_813 : decode cL_law 813 = .ok (.iaload, 1) := by decide +kernel
theorem dL_law_814 : decode cL_law 814 = .ok (.aload_n 0, 1) := by decide +kernel
theorem dL_law_815 : decode cL_law 815 = .ok (.iload 4, 2) := by decide +kernel
theorem dL_law_817 : decode cL_law 817 = .ok (.iconst 2, 1) := by decide +kernel
theorem dL_law_818 : decode cL_law 818 = .ok (.iadd, 1) := by decide +kernel
theorem dL_law_819 : decode cL_law 819 = .ok (.iaload, 1) := by decide +kernel
theorem dL_law_820 : decode cL_law 820 = .ok (.invokevirtual 116, 3) := by decide +kernel
theorem dL_law_823 : decode cL_law 823 = .ok (.istore 6, 2) := by decide +kernel
theorem dL_law_825 : decode cL_law 825 = .ok (.aload_n 2, 1) := by decide +kernel
theorem dL_law_826 : decode cL_law 826 = .ok (.invokevirtual 81, 3) := by decide +kernel
theorem dL_law_829 : decode cL_law 829 = .ok (.iload 5, 2) := by decide +kernel
theorem dL_law_831 : decode cL_law 831 = .ok (.if_icmp .eq 5, 3) := by decide +kernel
theorem dL_law_834 : decode cL_law 834 = .ok (.iconst 0, 1) := by decide +kernel
theorem dL_law_835 : decode cL_law 835 = .ok (.ireturn, 1) := by decide +kernel
theorem dL_law_836 : decode cL_law 836 = .ok (.iload 5, 2) := by decide +kernel
theorem dL_law_838 : decode cL_law 838 = .ok (.ifCond .ne 15, 3) := by decide +kernel
theorem dL_law_841 : decode cL_law 841 = .ok (.aload_n 3, 1) := by decide +kernel
theorem dL_law_842 : decode cL_law 842 = .ok (.iconst 0, 1) := by decide +kernel
theorem dL_law_843 : decode cL_law 843 = .ok (.laload, 1) := by decide +kernel
theorem dL_law_844 : decode cL_law 844 = .ok (.iload 6, 2) := by decide +kernel
theorem dL_law_846 : decode cL_law 846 = .ok (.i2l, 1) := by decide +kernel
theorem dL_law_847 : decode cL_law 847 = .ok (.lcmp, 1) := by decide +kernel
theorem dL_law_848 : decode cL_law 848 = .ok (.ifCond .eq 5, 3) := by decide +kernel
theorem dL_law_851 : decode cL_law 851 = .ok (.iconst 0, 1) := by decide +kernel
theorem dL_law_852 : decode cL_law 852 = .ok (.ireturn, 1) := by decide +kernel
theorem dL_law_853 : decode cL_law 853 = .ok (.goto 469, 3) := by decide +kernel
theorem dL_law_856 : decode cL_law 856 = .ok (.aload_n 1, 1) := by decide +kernel
theorem dL_law_857 : decode cL_law 857 = .ok (.aload_n 0, 1) := by decide +kernel
theorem dL_law_858 : decode cL_law 858 = .ok (.iload 4, 2) := by decide +kernel
theorem dL_law_860 : decode cL_law 860 = .ok (.iconst 1, 1) := by decide +kernel
theorem dL_law_861 : decode cL_law 861 = .ok (.iadd, 1) := by decide +kernel
theorem dL_law_862 : decode cL_law 862 = .ok (.iaload, 1) := by decide +kernel
theorem dL_law_863 : decode cL_law 863 = .ok (.aload_n 0, 1) := by decide +kernel
theorem dL_law_864 : decode cL_law 864 = .ok (.iload 4, 2) := by decide +kernel
theorem dL_law_866 : decode cL_law 866 = .ok (.iconst 2, 1) := by decide +kernel
theorem dL_law_867 : decode cL_law 867 = .ok (.iadd, 1) := by decide +kernel
theorem dL_law_868 : decode cL_law 868 = .ok (.iaload, 1) := by decide +kernel
theorem dL_law_869 : decode cL_law 869 = .ok (.aload_n 3, 1) := by decide +kernel
theorem dL_law_870 : decode cL_law 870 = .ok (.invokestatic 117, 3) := by decide +kernel
theorem dL_law_873 : decode cL_law 873 = .ok (.istore 5, 2) := by decide +kernel
theorem dL_law_875 : decode cL_law 875 = .ok (.aload_n 2, 1) := by decide +kernel
theorem dL_law_876 : decode cL_law 876 = .ok (.aload_n 0, 1) := by decide +kernel
theorem dL_law_877 : decode cL_law 877 = .ok (.iload 4, 2) := by decide +kernel
theorem dL_law_879 : decode cL_law 879 = .ok (.iconst 1, 1) := by decide +kernel
theorem dL_law_880 : decode cL_law 880 = .ok (.iadd, 1) := by decide +kernel
theorem dL_law_881 : decode cL_law 881 = .ok (.iaload, 1) := by decide +kernel
theorem dL_law_882 : decode cL_law 882 = .ok (.aload_n 0, 1) := by decide +kernel
theorem dL_law_883 : decode cL_law 883 = .ok (.iload 4, 2) := by decide +kernel
theorem dL_law_885 : decode cL_law 885 = .ok (.iconst 2, 1) := by decide +kernel
theorem dL_law_886 : decode cL_law 886 = .ok (.iadd, 1) := by decide +kernel
theorem dL_law_887 : decode cL_law 887 = .ok (.iaload, 1) := by decide +kernel
theorem dL_law_888 : decode cL_law 888 = .ok (.invokevirtual 119, 3) := by decide +kernel
theorem dL_law_891 : decode cL_law 891 = .ok (.istore 6, 2) := by decide +kernel
theorem dL_law_893 : decode cL_law 893 = .ok (.aload_n 2, 1) := by decide +kernel
theorem dL_law_894 : decode cL_law 894 = .ok (.invokevirtual 81, 3) := by decide +kernel
theorem dL_law_897 : decode cL_law 897 = .ok (.iload 5, 2) := by decide +kernel
theorem dL_law_899 : decode cL_law 899 = .ok (.if_icmp .eq 5, 3) := by decide +kernel
theorem dL_law_902 : decode cL_law 902 = .ok (.iconst 0, 1) := by decide +kernel
theorem dL_law_903 : decode cL_law 903 = .ok (.ireturn, 1) := by decide +kernel
theorem dL_law_904 : decode cL_law 904 = .ok (.iload 5, 2) := by decide +kernel
theorem dL_law_906 : decode cL_law 906 = .ok (.ifCond .ne 15, 3) := by decide +kernel
theorem dL_law_909 : decode cL_law 909 = .ok (.aload_n 3, 1) := by decide +kernel
theorem dL_law_910 : decode cL_law 910 = .ok (.iconst 0, 1) := by decide +kernel
theorem dL_law_911 : decode cL_law 911 = .ok (.laload, 1) := by decide +kernel
theorem dL_law_912 : decode cL_law 912 = .ok (.iload 6, 2) := by decide +kernel
theorem dL_law_914 : decode cL_law 914 = .ok (.i2l, 1) := by decide +kernel
theorem dL_law_915 : decode cL_law 915 = .ok (.lcmp, 1) := by decide +kernel
theorem dL_law_916 : decode cL_law 916 = .ok (.ifCond .eq 5, 3) := by decide +kernel
theorem dL_law_919 : decode cL_law 919 = .ok (.iconst 0, 1) := by decide +kernel
theorem dL_law_920 : decode cL_law 920 = .ok (.ireturn, 1) := by decide +kernel
theorem dL_law_921 : decode cL_law 921 = .ok (.goto 401, 3) := by decide +kernel
theorem dL_law_924 : decode cL_law 924 = .ok (.aload_n 1, 1) := by decide +kernel
theorem dL_law_925 : decode cL_law 925 = .ok (.aload_n 0, 1) := by decide +kernel
theorem dL_law_926 : decode cL_law 926 = .ok (.iload 4, 2) := by decide +kernel
theorem dL_law_928 : decode cL_law 928 = .ok (.iconst 1, 1) := by decide +kernel
theorem dL_law_929 : decode cL_law 929 = .ok (.iadd, 1) := by decide +kernel
theorem dL_law_930 : decode cL_law 930 = .ok (.iaload, 1) := by decide +kernel
theorem dL_law_931 : decode cL_law 931 = .ok (.aload_n 3, 1) := by decide +kernel
theorem dL_law_932 : decode cL_law 932 = .ok (.invokestatic 120, 3) := by decide +kernel
theorem dL_law_935 : decode cL_law 935 = .ok (.istore 5, 2) := by decide +kernel
theorem dL_law_937 : decode cL_law 937 = .ok (.aload_n 2, 1) := by decide +kernel
theorem dL_law_938 : decode cL_law 938 = .ok (.aload_n 0, 1) := by decide +kernel
theorem dL_law_939 : decode cL_law 939 = .ok (.iload 4, 2) := by decide +kernel
theorem dL_law_941 : decode cL_law 941 = .ok (.iconst 1, 1) := by decide +kernel
theorem dL_law_942 : decode cL_law 942 = .ok (.iadd, 1) := by decide +kernel
theorem dL_law_943 : decode cL_law 943 = .ok (.iaload, 1) := by decide +kernel
theorem dL_law_944 : decode cL_law 944 = .ok (.invokevirtual 122, 3) := by decide +kernel
theorem dL_law_947 : decode cL_law 947 = .ok (.istore 6, 2) := by decide +kernel
theorem dL_law_949 : decode cL_law 949 = .ok (.aload_n 2, 1) := by decide +kernel
theorem dL_law_950 : decode cL_law 950 = .ok (.invokevirtual 81, 3) := by decide +kernel
theorem dL_law_953 : decode cL_law 953 = .ok (.iload 5, 2) := by decide +kernel
theorem dL_law_955 : decode cL_law 955 = .ok (.if_icmp .eq 5, 3) := by decide +kernel
theorem dL_law_958 : decode cL_law 958 = .ok (.iconst 0, 1) := by decide +kernel
theorem dL_law_959 : decode cL_law 959 = .ok (.ireturn, 1) := by decide +kernel
theorem dL_law_960 : decode cL_law 960 = .ok (.iload 5, 2) := by decide +kernel
theorem dL_law_962 : decode cL_law 962 = .ok (.ifCond .ne 15, 3) := by decide +kernel
theorem dL_law_965 : decode cL_law 965 = .ok (.aload_n 3, 1) := by decide +kernel
theorem dL_law_966 : decode cL_law 966 = .ok (.iconst 0, 1) := by decide +kernel
theorem dL_law_967 : decode cL_law 967 = .ok (.laload, 1) := by decide +kernel
theorem dL_law_968 : decode cL_law 968 = .ok (.iload 6, 2) := by decide +kernel
theorem dL_law_970 : decode cL_law 970 = .ok (.i2l, 1) := by decide +kernel
theorem dL_law_971 : decode cL_law 971 = .ok (.lcmp, 1) := by decide +kernel
theorem dL_law_972 : decode cL_law 972 = .ok (.ifCond .eq 5, 3) := by decide +kernel
theorem dL_law_975 : decode cL_law 975 = .ok (.iconst 0, 1) := by decide +kernel
theorem dL_law_976 : decode cL_law 976 = .ok (.ireturn, 1) := by decide +kernel
theorem dL_law_977 : decode cL_law 977 = .ok (.goto 345, 3) := by decide +kernel
theorem dL_law_980 : decode cL_law 980 = .ok (.aload_n 1, 1) := by decide +kernel
theorem dL_law_981 : decode cL_law 981 = .ok (.aload_n 0, 1) := by decide +kernel
theorem dL_law_982 : decode cL_law 982 = .ok (.iload 4, 2) := by decide +kernel
theorem dL_law_984 : decode cL_law 984 = .ok (.iconst 1, 1) := by decide +kernel
theorem dL_law_985 : decode cL_law 985 = .ok (.iadd, 1) := by decide +kernel
theorem dL_law_986 : decode cL_law 986 = .ok (.iaload, 1) := by decide +kernel
theorem dL_law_987 : decode cL_law 987 = .ok (.aload_n 0, 1) := by decide +kernel
theorem dL_law_988 : decode cL_law 988 = .ok (.iload 4, 2) := by decide +kernel
theorem dL_law_990 : decode cL_law 990 = .ok (.iconst 2, 1) := by decide +kernel
theorem dL_law_991 : decode cL_law 991 = .ok (.iadd, 1) := by decide +kernel
theorem dL_law_992 : decode cL_law 992 = .ok (.iaload, 1) := by decide +kernel
theorem dL_law_993 : decode cL_law 993 = .ok (.aload_n 3, 1) := by decide +kernel
theorem dL_law_994 : decode cL_law 994 = .ok (.invokestatic 123, 3) := by decide +kernel
theorem dL_law_997 : decode cL_law 997 = .ok (.istore 5, 2) := by decide +kernel
theorem dL_law_999 : decode cL_law 999 = .ok (.aload_n 2, 1) := by decide +kernel
theorem dL_law_1000 : decode cL_law 1000 = .ok (.aload_n 0, 1) := by decide +kernel
theorem dL_law_1001 : decode cL_law 1001 = .ok (.iload 4, 2) := by decide +kernel
theorem dL_law_1003 : decode cL_law 1003 = .ok (.iconst 1, 1) := by decide +kernel
theorem dL_law_1004 : decode cL_law 1004 = .ok (.iadd, 1) := by decide +kernel
theorem dL_law_1005 : decode cL_law 1005 = .ok (.iaload, 1) := by decide +kernel
theorem dL_law_1006 : decode cL_law 1006 = .ok (.aload_n 0, 1) := by decide +kernel
theorem dL_law_1007 : decode cL_law 1007 = .ok (.iload 4, 2) := by decide +kernel
theorem dL_law_1009 : decode cL_law 1009 = .ok (.iconst 2, 1) := by decide +kernel
theorem dL_law_1010 : decode cL_law 1010 = .ok (.iadd, 1) := by decide +kernel
theorem dL_law_1011 : decode cL_law 1011 = .ok (.iaload, 1) := by decide +kernel
theorem dL_law_1012 : decode cL_law 1012 = .ok (.invokevirtual 125, 3) := by decide +kernel
theorem dL_law_1015 : decode cL_law 1015 = .ok (.istore 6, 2) := by decide +kernel
theorem dL_law_1017 : decode cL_law 1017 = .ok (.aload_n 2, 1) := by decide +kernel
theorem dL_law_1018 : decode cL_law 1018 = .ok (.invokevirtual 81, 3) := by decide +kernel
theorem dL_law_1021 : decode cL_law 1021 = .ok (.iload 5, 2) := by decide +kernel
theorem dL_law_1023 : decode cL_law 1023 = .ok (.if_icmp .eq 5, 3) := by decide +kernel
theorem dL_law_1026 : decode cL_law 1026 = .ok (.iconst 0, 1) := by decide +kernel
theorem dL_law_1027 : decode cL_law 1027 = .ok (.ireturn, 1) := by decide +kernel
theorem dL_law_1028 : decode cL_law 1028 = .ok (.iload 5, 2) := by decide +kernel
theorem dL_law_1030 : decode cL_law 1030 = .ok (.ifCond .ne 22, 3) := by decide +kernel
theorem dL_law_1033 : decode cL_law 1033 = .ok (.aload_n 3, 1) := by decide +kernel
theorem dL_law_1034 : decode cL_law 1034 = .ok (.iconst 0, 1) := by decide +kernel
theorem dL_law_1035 : decode cL_law 1035 = .ok (.laload, 1) := by decide +kernel
theorem dL_law_1036 : decode cL_law 1036 = .ok (.iload 6, 2) := by decide +kernel
theorem dL_law_1038 : decode cL_law 1038 = .ok (.ifCond .eq 7, 3) := by decide +kernel
theorem dL_law_1041 : decode cL_law 1041 = .ok (.lconst 1, 1) := by decide +kernel
theorem dL_law_1042 : decode cL_law 1042 = .ok (.goto 4, 3) := by decide +kernel
theorem dL_law_1045 : decode cL_law 1045 = .ok (.lconst 0, 1) := by decide +kernel
theorem dL_law_1046 : decode cL_law 1046 = .ok (.lcmp, 1) := by decide +kernel
theorem dL_law_1047 : decode cL_law 1047 = .ok (.ifCond .eq 5, 3) := by decide +kernel
theorem dL_law_1050 : decode cL_law 1050 = .ok (.iconst 0, 1) := by decide +kernel
theorem dL_law_1051 : decode cL_law 1051 = .ok (.ireturn, 1) := by decide +kernel
theorem dL_law_1052 : decode cL_law 1052 = .ok (.goto 270, 3) := by decide +kernel
theorem dL_law_1055 : decode cL_law 1055 = .ok (.aload_n 1, 1) := by decide +kernel
theorem dL_law_1056 : decode cL_law 1056 = .ok (.aload_n 0, 1) := by decide +kernel
theorem dL_law_1057 : decode cL_law 1057 = .ok (.iload 4, 2) := by decide +kernel
theorem dL_law_1059 : decode cL_law 1059 = .ok (.iconst 1, 1) := by decide +kernel
theorem dL_law_1060 : decode cL_law 1060 = .ok (.iadd, 1) := by decide +kernel
theorem dL_law_1061 : decode cL_law 1061 = .ok (.iaload, 1) := by decide +kernel
theorem dL_law_1062 : decode cL_law 1062 = .ok (.aload_n 0, 1) := by decide +kernel
theorem dL_law_1063 : decode cL_law 1063 = .ok (.iload 4, 2) := by decide +kernel
theorem dL_law_1065 : decode cL_law 1065 = .ok (.iconst 2, 1) := by decide +kernel
theorem dL_law_1066 : decode cL_law 1066 = .ok (.iadd, 1) := by decide +kernel
theorem dL_law_1067 : decode cL_law 1067 = .ok (.iaload, 1) := by decide +kernel
theorem dL_law_1068 : decode cL_law 1068 = .ok (.aload_n 3, 1) := by decide +kernel
theorem dL_law_1069 : decode cL_law 1069 = .ok (.invokestatic 126, 3) := by decide +kernel
theorem dL_law_1072 : decode cL_law 1072 = .ok (.istore 5, 2) := by decide +kernel
theorem dL_law_1074 : decode cL_law 1074 = .ok (.aload_n 2, 1) := by decide +kernel
theorem dL_law_1075 : decode cL_law 1075 = .ok (.aload_n 0, 1) := by decide +kernel
theorem dL_law_1076 : decode cL_law 1076 = .ok (.iload 4, 2) := by decide +kernel
theorem dL_law_1078 : decode cL_law 1078 = .ok (.iconst 1, 1) := by decide +kernel
theorem dL_law_1079 : decode cL_law 1079 = .ok (.iadd, 1) := by decide +kernel
theorem dL_law_1080 : decode cL_law 1080 = .ok (.iaload, 1) := by decide +kernel
theorem dL_law_1081 : decode cL_law 1081 = .ok (.aload_n 0, 1) := by decide +kernel
theorem dL_law_1082 : decode cL_law 1082 = .ok (.iload 4, 2) := by decide +kernel
theorem dL_law_1084 : decode cL_law 1084 = .ok (.iconst 2, 1) := by decide +kernel
theorem dL_law_1085 : decode cL_law 1085 = .ok (.iadd, 1) := by decide +kernel
theorem dL_law_1086 : decode cL_law 1086 = .ok (.iaload, 1) := by decide +kernel
theorem dL_law_1087 : decode cL_law 1087 = .ok (.invokevirtual 128, 3) := by decide +kernel
theorem dL_law_1090 : decode cL_law 1090 = .ok (.istore 6, 2) := by decide +kernel
theorem dL_law_1092 : decode cL_law 1092 = .ok (.aload_n 2, 1) := by decide +kernel
theorem dL_law_1093 : decode cL_law 1093 = .ok (.invokevirtual 81, 3) := by decide +kernel
theorem dL_law_1096 : decode cL_law 1096 = .ok (.iload 5, 2) := by decide +kernel
theorem dL_law_1098 : decode cL_law 1098 = .ok (.if_icmp .eq 5, 3) := by decide +kernel
theorem dL_law_1101 : decode cL_law 1101 = .ok (.iconst 0, 1) := by decide +kernel
theorem dL_law_1102 : decode cL_law 1102 = .ok (.ireturn, 1) := by decide +kernel
theorem dL_law_1103 : decode cL_law 1103 = .ok (.iload 5, 2) := by decide +kernel
theorem dL_law_1105 : decode cL_law 1105 = .ok (.ifCond .ne 22, 3) := by decide +kernel
theorem dL_law_1108 : decode cL_law 1108 = .ok (.aload_n 3, 1) := by decide +kernel
theorem dL_law_1109 : decode cL_law 1109 = .ok (.iconst 0, 1) := by decide +kernel
theorem dL_law_1110 : decode cL_law 1110 = .ok (.laload, 1) := by decide +kernel
theorem dL_law_1111 : decode cL_law 1111 = .ok (.iload 6, 2) := by decide +kernel
theorem dL_law_1113 : decode cL_law 1113 = .ok (.ifCond .eq 7, 3) := by decide +kernel
theorem dL_law_1116 : decode cL_law 1116 = .ok (.lconst 1, 1) := by decide +kernel
theorem dL_law_1117 : decode cL_law 1117 = .ok (.goto 4, 3) := by decide +kernel
theorem dL_law_1120 : decode cL_law 1120 = .ok (.lconst 0, 1) := by decide +kernel
theorem dL_law_1121 : decode cL_law 1121 = .ok (.lcmp, 1) := by decide +kernel
theorem dL_law_1122 : decode cL_law 1122 = .ok (.ifCond .eq 5, 3) := by decide +kernel
theorem dL_law_1125 : decode cL_law 1125 = .ok (.iconst 0, 1) := by decide +kernel
theorem dL_law_1126 : decode cL_law 1126 = .ok (.ireturn, 1) := by decide +kernel
theorem dL_law_1127 : decode cL_law 1127 = .ok (.goto 195, 3) := by decide +kernel
theorem dL_law_1130 : decode cL_law 1130 = .ok (.aload_n 1, 1) := by decide +kernel
theorem dL_law_1131 : decode cL_law 1131 = .ok (.aload_n 0, 1) := by decide +kernel
theorem dL_law_1132 : decode cL_law 1132 = .ok (.iload 4, 2) := by decide +kernel
theorem dL_law_1134 : decode cL_law 1134 = .ok (.iconst 1, 1) := by decide +kernel
theorem dL_law_1135 : decode cL_law 1135 = .ok (.iadd, 1) := by decide +kernel
theorem dL_law_1136 : decode cL_law 1136 = .ok (.iaload, 1) := by decide +kernel
theorem dL_law_1137 : decode cL_law 1137 = .ok (.aload_n 0, 1) := by decide +kernel
theorem dL_law_1138 : decode cL_law 1138 = .ok (.iload 4, 2) := by decide +kernel
theorem dL_law_1140 : decode cL_law 1140 = .ok (.iconst 2, 1) := by decide +kernel
theorem dL_law_1141 : decode cL_law 1141 = .ok (.iadd, 1) := by decide +kernel
theorem dL_law_1142 : decode cL_law 1142 = .ok (.iaload, 1) := by decide +kernel
theorem dL_law_1143 : decode cL_law 1143 = .ok (.aload_n 3, 1) := by decide +kernel
theorem dL_law_1144 : decode cL_law 1144 = .ok (.invokestatic 129, 3) := by decide +kernel
theorem dL_law_1147 : decode cL_law 1147 = .ok (.istore 5, 2) := by decide +kernel
theorem dL_law_1149 : decode cL_law 1149 = .ok (.aload_n 2, 1) := by decide +kernel
theorem dL_law_1150 : decode cL_law 1150 = .ok (.aload_n 0, 1) := by decide +kernel
theorem dL_law_1151 : decode cL_law 1151 = .ok (.iload 4, 2) := by decide +kernel
theorem dL_law_1153 : decode cL_law 1153 = .ok (.iconst 1, 1) := by decide +kernel
theorem dL_law_1154 : decode cL_law 1154 = .ok (.iadd, 1) := by decide +kernel
theorem dL_law_1155 : decode cL_law 1155 = .ok (.iaload, 1) := by decide +kernel
theorem dL_law_1156 : decode cL_law 1156 = .ok (.aload_n 0, 1) := by decide +kernel
theorem dL_law_1157 : decode cL_law 1157 = .ok (.iload 4, 2) := by decide +kernel
theorem dL_law_1159 : decode cL_law 1159 = .ok (.iconst 2, 1) := by decide +kernel
theorem dL_law_1160 : decode cL_law 1160 = .ok (.iadd, 1) := by decide +kernel
theorem dL_law_1161 : decode cL_law 1161 = .ok (.iaload, 1) := by decide +kernel
theorem dL_law_1162 : decode cL_law 1162 = .ok (.invokevirtual 131, 3) := by decide +kernel
theorem dL_law_1165 : decode cL_law 1165 = .ok (.istore 6, 2) := by decide +kernel
theorem dL_law_1167 : decode cL_law 1167 = .ok (.aload_n 2, 1) := by decide +kernel
theorem dL_law_1168 : decode cL_law 1168 = .ok (.invokevirtual 81, 3) := by decide +kernel
theorem dL_law_1171 : decode cL_law 1171 = .ok (.iload 5, 2) := by decide +kernel
theorem dL_law_1173 : decode cL_law 1173 = .ok (.if_icmp .eq 5, 3) := by decide +kernel
theorem dL_law_1176 : decode cL_law 1176 = .ok (.iconst 0, 1) := by decide +kernel
theorem dL_law_1177 : decode cL_law 1177 = .ok (.ireturn, 1) := by decide +kernel
theorem dL_law_1178 : decode cL_law 1178 = .ok (.iload 5, 2) := by decide +kernel
theorem dL_law_1180 : decode cL_law 1180 = .ok (.ifCond .ne 15, 3) := by decide +kernel
theorem dL_law_1183 : decode cL_law 1183 = .ok (.aload_n 3, 1) := by decide +kernel
theorem dL_law_1184 : decode cL_law 1184 = .ok (.iconst 0, 1) := by decide +kernel
theorem dL_law_1185 : decode cL_law 1185 = .ok (.laload, 1) := by decide +kernel
theorem dL_law_1186 : decode cL_law 1186 = .ok (.iload 6, 2) := by decide +kernel
theorem dL_law_1188 : decode cL_law 1188 = .ok (.i2l, 1) := by decide +kernel
theorem dL_law_1189 : decode cL_law 1189 = .ok (.lcmp, 1) := by decide +kernel
theorem dL_law_1190 : decode cL_law 1190 = .ok (.ifCond .eq 5, 3) := by decide +kernel
theorem dL_law_1193 : decode cL_law 1193 = .ok (.iconst 0, 1) := by decide +kernel
theorem dL_law_1194 : decode cL_law 1194 = .ok (.ireturn, 1) := by decide +kernel
theorem dL_law_1195 : decode cL_law 1195 = .ok (.goto 127, 3) := by decide +kernel
theorem dL_law_1198 : decode cL_law 1198 = .ok (.aload_n 1, 1) := by decide +kernel
theorem dL_law_1199 : decode cL_law 1199 = .ok (.aload_n 0, 1) := by decide +kernel
theorem dL_law_1200 : decode cL_law 1200 = .ok (.iload 4, 2) := by decide +kernel
theorem dL_law_1202 : decode cL_law 1202 = .ok (.iconst 1, 1) := by decide +kernel
theorem dL_law_1203 : decode cL_law 1203 = .ok (.iadd, 1) := by decide +kernel
theorem dL_law_1204 : decode cL_law 1204 = .ok (.iaload, 1) := by decide +kernel
theorem dL_law_1205 : decode cL_law 1205 = .ok (.aload_n 3, 1) := by decide +kernel
theorem dL_law_1206 : decode cL_law 1206 = .ok (.invokestatic 132, 3) := by decide +kernel
theorem dL_law_1209 : decode cL_law 1209 = .ok (.istore 5, 2) := by decide +kernel
theorem dL_law_1211 : decode cL_law 1211 = .ok (.aload_n 2, 1) := by decide +kernel
theorem dL_law_1212 : decode cL_law 1212 = .ok (.aload_n 0, 1) := by decide +kernel
theorem dL_law_1213 : decode cL_law 1213 = .ok (.iload 4, 2) := by decide +kernel
theorem dL_law_1215 : decode cL_law 1215 = .ok (.iconst 1, 1) := by decide +kernel
theorem dL_law_1216 : decode cL_law 1216 = .ok (.iadd, 1) := by decide +kernel
theorem dL_law_1217 : decode cL_law 1217 = .ok (.iaload, 1) := by decide +kernel
theorem dL_law_1218 : decode cL_law 1218 = .ok (.invokevirtual 134, 3) := by decide +kernel
theorem dL_law_1221 : decode cL_law 1221 = .ok (.istore 6, 2) := by decide +kernel
theorem dL_law_1223 : decode cL_law 1223 = .ok (.aload_n 2, 1) := by decide +kernel
theorem dL_law_1224 : decode cL_law 1224 = .ok (.invokevirtual 81, 3) := by decide +kernel
theorem dL_law_1227 : decode cL_law 1227 = .ok (.iload 5, 2) := by decide +kernel
theorem dL_law_1229 : decode cL_law 1229 = .ok (.if_icmp .eq 5, 3) := by decide +kernel
theorem dL_law_1232 : decode cL_law 1232 = .ok (.iconst 0, 1) := by decide +kernel
theorem dL_law_1233 : decode cL_law 1233 = .ok (.ireturn, 1) := by decide +kernel
theorem dL_law_1234 : decode cL_law 1234 = .ok (.iload 5, 2) := by decide +kernel
theorem dL_law_1236 : decode cL_law 1236 = .ok (.ifCond .ne 15, 3) := by decide +kernel
theorem dL_law_1239 : decode cL_law 1239 = .ok (.aload_n 3, 1) := by decide +kernel
theorem dL_law_1240 : decode cL_law 1240 = .ok (.iconst 0, 1) := by decide +kernel
theorem dL_law_1241 : decode cL_law 1241 = .ok (.laload, 1) := by decide +kernel
theorem dL_law_1242 : decode cL_law 1242 = .ok (.iload 6, 2) := by decide +kernel
theorem dL_law_1244 : decode cL_law 1244 = .ok (.i2l, 1) := by decide +kernel
theorem dL_law_1245 : decode cL_law 1245 = .ok (.lcmp, 1) := by decide +kernel
theorem dL_law_1246 : decode cL_law 1246 = .ok (.ifCond .eq 5, 3) := by decide +kernel
theorem dL_law_1249 : decode cL_law 1249 = .ok (.iconst 0, 1) := by decide +kernel
theorem dL_law_1250 : decode cL_law 1250 = .ok (.ireturn, 1) := by decide +kernel
theorem dL_law_1251 : decode cL_law 1251 = .ok (.goto 71, 3) := by decide +kernel
theorem dL_law_1254 : decode cL_law 1254 = .ok (.aload_n 1, 1) := by decide +kernel
theorem dL_law_1255 : decode cL_law 1255 = .ok (.invokevirtual 135, 3) := by decide +kernel
theorem dL_law_1258 : decode cL_law 1258 = .ok (.aload_n 2, 1) := by decide +kernel
theorem dL_law_1259 : decode cL_law 1259 = .ok (.invokevirtual 138, 3) := by decide +kernel
theorem dL_law_1262 : decode cL_law 1262 = .ok (.if_icmp .eq 60, 3) := by decide +kernel
theorem dL_law_1265 : decode cL_law 1265 = .ok (.iconst 0, 1) := by decide +kernel
theorem dL_law_1266 : decode cL_law 1266 = .ok (.ireturn, 1) := by decide +kernel
theorem dL_law_1267 : decode cL_law 1267 = .ok (.aload_n 1, 1) := by decide +kernel
theorem dL_law_1268 : decode cL_law 1268 = .ok (.invokevirtual 139, 3) := by decide +kernel
theorem dL_law_1271 : decode cL_law 1271 = .ok (.dstore 5, 2) := by decide +kernel
theorem dL_law_1273 : decode cL_law 1273 = .ok (.aload_n 2, 1) := by decide +kernel
theorem dL_law_1274 : decode cL_law 1274 = .ok (.invokevirtual 143, 3) := by decide +kernel
theorem dL_law_1277 : decode cL_law 1277 = .ok (.dstore 7, 2) := by decide +kernel
theorem dL_law_1279 : decode cL_law 1279 = .ok (.dload 5, 2) := by decide +kernel
theorem dL_law_1281 : decode cL_law 1281 = .ok (.dload 7, 2) := by decide +kernel
theorem dL_law_1283 : decode cL_law 1283 = .ok (.dcmp .l, 1) := by decide +kernel
theorem dL_law_1284 : decode cL_law 1284 = .ok (.ifCond .eq 21, 3) := by decide +kernel
theorem dL_law_1287 : decode cL_law 1287 = .ok (.dload 5, 2) := by decide +kernel
theorem dL_law_1289 : decode cL_law 1289 = .ok (.dload 5, 2) := by decide +kernel
theorem dL_law_1291 : decode cL_law 1291 = .ok (.dcmp .l, 1) := by decide +kernel
theorem dL_law_1292 : decode cL_law 1292 = .ok (.ifCond .eq 11, 3) := by decide +kernel
theorem dL_law_1295 : decode cL_law 1295 = .ok (.dload 7, 2) := by decide +kernel
theorem dL_law_1297 : decode cL_law 1297 = .ok (.dload 7, 2) := by decide +kernel
theorem dL_law_1299 : decode cL_law 1299 = .ok (.dcmp .l, 1) := by decide +kernel
theorem dL_law_1300 : decode cL_law 1300 = .ok (.ifCond .ne 5, 3) := by decide +kernel
theorem dL_law_1303 : decode cL_law 1303 = .ok (.iconst 0, 1) := by decide +kernel
theorem dL_law_1304 : decode cL_law 1304 = .ok (.ireturn, 1) := by decide +kernel
theorem dL_law_1305 : decode cL_law 1305 = .ok (.goto 17, 3) := by decide +kernel
theorem dL_law_1308 : decode cL_law 1308 = .ok (.aload_n 1, 1) := by decide +kernel
theorem dL_law_1309 : decode cL_law 1309 = .ok (.invokevirtual 144, 3) := by decide +kernel
theorem dL_law_1312 : decode cL_law 1312 = .ok (.aload_n 2, 1) := by decide +kernel
theorem dL_law_1313 : decode cL_law 1313 = .ok (.invokevirtual 148, 3) := by decide +kernel
theorem dL_law_1316 : decode cL_law 1316 = .ok (.lcmp, 1) := by decide +kernel
theorem dL_law_1317 : decode cL_law 1317 = .ok (.ifCond .eq 5, 3) := by decide +kernel
theorem dL_law_1320 : decode cL_law 1320 = .ok (.iconst 0, 1) := by decide +kernel
theorem dL_law_1321 : decode cL_law 1321 = .ok (.ireturn, 1) := by decide +kernel
theorem dL_law_1322 : decode cL_law 1322 = .ok (.iinc 4 4, 3) := by decide +kernel
theorem dL_law_1325 : decode cL_law 1325 = .ok (.goto (-1302), 3) := by decide +kernel
theorem dL_law_1328 : decode cL_law 1328 = .ok (.iconst 1, 1) := by decide +kernel
theorem dL_law_1329 : decode cL_law 1329 = .ok (.ireturn, 1) := by decide +kernel
section LAW
variable {p : Program} {l : Launch} {e : Env} {s : State} {m : MethodId} {below : List Frame} {meth : Method} {c : Code} {D : va_G} {g : gT} {b L : Nat} {xs : Nat → Int32} {ad ln : Nat → Nat}
def mL_law_b1322 (xs : Nat → Int32) (L : Nat) (K23 : Nat → Nat → Nat → gM → Int32 → Option Unit) (cp k n : Nat) (A : gM) (x4 : Int32) : Option Unit :=
  g_let (x4 + 4) fun v1 =>
  K23 cp k n A v1
def mL_law_b1305 (xs : Nat → Int32) (L : Nat) (K23 : Nat → Nat → Nat → gM → Int32 → Option Unit) (cp k n : Nat) (A : gM) (x4 : Int32) : Option Unit :=
  mL_law_b1322 xs L K23 cp k n A x4
def mL_law_b1303 (xs : Nat → Int32) (L : Nat) (cp k n : Nat) (A : gM) : Option Unit :=
  none
def mL_law_b1251 (xs : Nat → Int32) (L : Nat) (K23 : Nat → Nat → Nat → gM → Int32 → Option Unit) (cp k n : Nat) (A : gM) (x4 : Int32) : Option Unit :=
  mL_law_b1322 xs L K23 cp k n A x4
def mL_law_b1195 (xs : Nat → Int32) (L : Nat) (K23 : Nat → Nat → Nat → gM → Int32 → Option Unit) (cp k n : Nat) (A : gM) (x4 : Int32) : Option Unit :=
  mL_law_b1322 xs L K23 cp k n A x4
def mL_law_b1127 (xs : Nat → Int32) (L : Nat) (K23 : Nat → Nat → Nat → gM → Int32 → Option Unit) (cp k n : Nat) (A : gM) (x4 : Int32) : Option Unit :=
  mL_law_b1322 xs L K23 cp k n A x4
def mL_law_b1121 (xs : Nat → Int32) (L : Nat) (K23 : Nat → Nat → Nat → gM → Int32 → Option Unit) (cp k n : Nat) (A : gM) (x4 : Int32) (s0 : Int64) (s1 : Int64) : Option Unit :=
  if (lg_cmp s0 s1) = 0 then
  mL_law_b1127 xs L K23 cp k n A x4
  else
  none
def mL_law_b1052 (xs : Nat → Int32) (L : Nat) (K23 : Nat → Nat → Nat → gM → Int32 → Option Unit) (cp k n : Nat) (A : gM) (x4 : Int32) : Option Unit :=
  mL_law_b1322 xs L K23 cp k n A x4
def mL_law_b1046 (xs : Nat → Int32) (L : Nat) (K23 : Nat → Nat → Nat → gM → Int32 → Option Unit) (cp k n : Nat) (A : gM) (x4 : Int32) (s0 : Int64) (s1 : Int64) : Option Unit :=
  if (lg_cmp s0 s1) = 0 then
  mL_law_b1052 xs L K23 cp k n A x4
  else
  none
def mL_law_b977 (xs : Nat → Int32) (L : Nat) (K23 : Nat → Nat → Nat → gM → Int32 → Option Unit) (cp k n : Nat) (A : gM) (x4 : Int32) : Option Unit :=
  mL_law_b1322 xs L K23 cp k n A x4
def mL_law_b921 (xs : Nat → Int32) (L : Nat) (K23 : Nat → Nat → Nat → gM → Int32 → Option Unit) (cp k n : Nat) (A : gM) (x4 : Int32) : Option Unit :=
  mL_law_b1322 xs L K23 cp k n A x4
def mL_law_b853 (xs : Nat → Int32) (L : Nat) (K23 : Nat → Nat → Nat → gM → Int32 → Option Unit) (cp k n : Nat) (A : gM) (x4 : Int32) : Option Unit :=
  mL_law_b1322 xs L K23 cp k n A x4
def mL_law_b785 (xs : Nat → Int32) (L : Nat) (K23 : Nat → Nat → Nat → gM → Int32 → Option Unit) (cp k n : Nat) (A : gM) (x4 : Int32) : Option Unit :=
  mL_law_b1322 xs L K23 cp k n A x4
def mL_law_b717 (xs : Nat → Int32) (L : Nat) (K23 : Nat → Nat → Nat → gM → Int32 → Option Unit) (cp k n : Nat) (A : gM) (x4 : Int32) : Option Unit :=
  mL_law_b1322 xs L K23 cp k n A x4
def mL_law_b673 (xs : Nat → Int32) (L : Nat) (K23 : Nat → Nat → Nat → gM → Int32 → Option Unit) (cp k n : Nat) (A : gM) (x4 : Int32) : Option Unit :=
  mL_law_b1322 xs L K23 cp k n A x4
def mL_law_b593 (xs : Nat → Int32) (L : Nat) (K23 : Nat → Nat → Nat → gM → Int32 → Option Unit) (cp k n : Nat) (A : gM) (x4 : Int32) : Option Unit :=
  mL_law_b1322 xs L K23 cp k n A x4
def mL_law_b525 (xs : Nat → Int32) (L : Nat) (K23 : Nat → Nat → Nat → gM → Int32 → Option Unit) (cp k n : Nat) (A : gM) (x4 : Int32) : Option Unit :=
  mL_law_b1322 xs L K23 cp k n A x4
def mL_law_b457 (xs : Nat → Int32) (L : Nat) (K23 : Nat → Nat → Nat → gM → Int32 → Option Unit) (cp k n : Nat) (A : gM) (x4 : Int32) : Option Unit :=
  mL_law_b1322 xs L K23 cp k n A x4
def mL_law_b377 (xs : Nat → Int32) (L : Nat) (K23 : Nat → Nat → Nat → gM → Int32 → Option Unit) (cp k n : Nat) (A : gM) (x4 : Int32) : Option Unit :=
  mL_law_b1322 xs L K23 cp k n A x4
def mL_law_b309 (xs : Nat → Int32) (L : Nat) (K23 : Nat → Nat → Nat → gM → Int32 → Option Unit) (cp k n : Nat) (A : gM) (x4 : Int32) : Option Unit :=
  mL_law_b1322 xs L K23 cp k n A x4
def mL_law_b241 (xs : Nat → Int32) (L : Nat) (K23 : Nat → Nat → Nat → gM → Int32 → Option Unit) (cp k n : Nat) (A : gM) (x4 : Int32) : Option Unit :=
  mL_law_b1322 xs L K23 cp k n A x4
def mL_law_b185 (xs : Nat → Int32) (L : Nat) (K23 : Nat → Nat → Nat → gM → Int32 → Option Unit) (cp k n : Nat) (A : gM) (x4 : Int32) : Option Unit :=
  mL_law_b1322 xs L K23 cp k n A x4
def mL_law_b23 (xs : Nat → Int32) (L : Nat) (K23 : Nat → Nat → Nat → gM → Int32 → Option Unit) (cp k n : Nat) (A : gM) (x4 : Int32) : Option Unit :=
  if ((Int32.ofNat L) - 4) < x4 then
  if k ≤ 601024 ∧ n ≤ 7293034 then some () else none
  else
  if g_in x4 L = true then
  if ((xs x4.toNatClampNeg) &&& 31) = 0 then
  if g_in (x4 + 1) L = true then
  (mL_plain A (xs (x4 + 1).toNatClampNeg)).bind fun q5 => if (k + 2) ≤ 601024 ∧ (n + 6 * 2) ≤ 7293034 then
  if g_in (x4 + 1) L = true then
  (mX6_plain 193 cp q5.1 (xs (x4 + 1).toNatClampNeg)).bind fun q8 => if ((k + 2) + q8.2.1.2.1) ≤ 601024 ∧ ((n + 6 * 2) + q8.2.1.2.2) ≤ 7293034 then
  (mX6_thrown q8.2.1.1 q8.1).bind fun q10 => if ((k + 2) + q8.2.1.2.1) ≤ 601024 ∧ ((n + 6 * 2) + q8.2.1.2.2) ≤ 7293034 then
  if q10.2 = q5.2 then
  if q5.2 = 0 then
  if g_in 0 1 = true then
  if (lg_cmp ((q10.1 192 (0 : Int32).toNatClampNeg).toInt64) q8.2.2.toInt64) = 0 then
  mL_law_b185 xs L K23 q8.2.1.1 ((k + 2) + q8.2.1.2.1) ((n + 6 * 2) + q8.2.1.2.2) q10.1 x4
  else
  none
  else none
  else
  mL_law_b185 xs L K23 q8.2.1.1 ((k + 2) + q8.2.1.2.1) ((n + 6 * 2) + q8.2.1.2.2) q10.1 x4
  else
  none
  else none
  else none
  else none
  else none
  else none
  else if ((xs x4.toNatClampNeg) &&& 31) = 1 then
  if g_in (x4 + 1) L = true then
  (mL_name A (xs (x4 + 1).toNatClampNeg)).bind fun q18 => if (k + 2) ≤ 601024 ∧ (n + 6 * 2) ≤ 7293034 then
  if g_in (x4 + 1) L = true then
  (mX6_name 193 cp q18.1 (xs (x4 + 1).toNatClampNeg)).bind fun q21 => if ((k + 2) + q21.2.1.2.1) ≤ 601024 ∧ ((n + 6 * 2) + q21.2.1.2.2) ≤ 7293034 then
  (mX6_thrown q21.2.1.1 q21.1).bind fun q23 => if ((k + 2) + q21.2.1.2.1) ≤ 601024 ∧ ((n + 6 * 2) + q21.2.1.2.2) ≤ 7293034 then
  if q23.2 = q18.2 then
  if q18.2 = 0 then
  if g_in 0 1 = true then
  if (lg_cmp ((q23.1 192 (0 : Int32).toNatClampNeg).toInt64) q21.2.2.toInt64) = 0 then
  mL_law_b241 xs L K23 q21.2.1.1 ((k + 2) + q21.2.1.2.1) ((n + 6 * 2) + q21.2.1.2.2) q23.1 x4
  else
  none
  else none
  else
  mL_law_b241 xs L K23 q21.2.1.1 ((k + 2) + q21.2.1.2.1) ((n + 6 * 2) + q21.2.1.2.2) q23.1 x4
  else
  none
  else none
  else none
  else none
  else none
  else none
  else if ((xs x4.toNatClampNeg) &&& 31) = 2 then
  if g_in (x4 + 1) L = true then
  if g_in (x4 + 2) L = true then
  (mL_wheel A (xs (x4 + 1).toNatClampNeg) (xs (x4 + 2).toNatClampNeg)).bind fun q32 => if (k + 3) ≤ 601024 ∧ (n + 6 * 3) ≤ 7293034 then
  if g_in (x4 + 1) L = true then
  if g_in (x4 + 2) L = true then
  (mX6_wheel 193 cp q32.1 (xs (x4 + 1).toNatClampNeg) (xs (x4 + 2).toNatClampNeg)).bind fun q36 => if ((k + 3) + q36.2.1.2.1) ≤ 601024 ∧ ((n + 6 * 3) + q36.2.1.2.2) ≤ 7293034 then
  (mX6_thrown q36.2.1.1 q36.1).bind fun q38 => if ((k + 3) + q36.2.1.2.1) ≤ 601024 ∧ ((n + 6 * 3) + q36.2.1.2.2) ≤ 7293034 then
  if q38.2 = q32.2 then
  if q32.2 = 0 then
  if g_in 0 1 = true then
  if (lg_cmp ((q38.1 192 (0 : Int32).toNatClampNeg).toInt64) q36.2.2.toInt64) = 0 then
  mL_law_b309 xs L K23 q36.2.1.1 ((k + 3) + q36.2.1.2.1) ((n + 6 * 3) + q36.2.1.2.2) q38.1 x4
  else
  none
  else none
  else
  mL_law_b309 xs L K23 q36.2.1.1 ((k + 3) + q36.2.1.2.1) ((n + 6 * 3) + q36.2.1.2.2) q38.1 x4
  else
  none
  else none
  else none
  else none
  else none
  else none
  else none
  else none
  else if ((xs x4.toNatClampNeg) &&& 31) = 3 then
  if g_in (x4 + 1) L = true then
  if g_in (x4 + 2) L = true then
  (mL_turn A (xs (x4 + 1).toNatClampNeg) (xs (x4 + 2).toNatClampNeg)).bind fun q47 => if (k + 3) ≤ 601024 ∧ (n + 6 * 3) ≤ 7293034 then
  if g_in (x4 + 1) L = true then
  if g_in (x4 + 2) L = true then
  (mX6_turn 193 cp q47.1 (xs (x4 + 1).toNatClampNeg) (xs (x4 + 2).toNatClampNeg)).bind fun q51 => if ((k + 3) + q51.2.1.2.1) ≤ 601024 ∧ ((n + 6 * 3) + q51.2.1.2.2) ≤ 7293034 then
  (mX6_thrown q51.2.1.1 q51.1).bind fun q53 => if ((k + 3) + q51.2.1.2.1) ≤ 601024 ∧ ((n + 6 * 3) + q51.2.1.2.2) ≤ 7293034 then
  if q53.2 = q47.2 then
  if q47.2 = 0 then
  if g_in 0 1 = true then
  if (lg_cmp ((q53.1 192 (0 : Int32).toNatClampNeg).toInt64) q51.2.2.toInt64) = 0 then
  mL_law_b377 xs L K23 q51.2.1.1 ((k + 3) + q51.2.1.2.1) ((n + 6 * 3) + q51.2.1.2.2) q53.1 x4
  else
  none
  else none
  else
  mL_law_b377 xs L K23 q51.2.1.1 ((k + 3) + q51.2.1.2.1) ((n + 6 * 3) + q51.2.1.2.2) q53.1 x4
  else
  none
  else none
  else none
  else none
  else none
  else none
  else none
  else none
  else if ((xs x4.toNatClampNeg) &&& 31) = 4 then
  if g_in (x4 + 1) L = true then
  if g_in (x4 + 2) L = true then
  if g_in (x4 + 3) L = true then
  (mL_tell A (xs (x4 + 1).toNatClampNeg) (xs (x4 + 2).toNatClampNeg) (xs (x4 + 3).toNatClampNeg)).bind fun q63 => if (k + 4) ≤ 601024 ∧ (n + 6 * 4) ≤ 7293034 then
  if g_in (x4 + 1) L = true then
  if g_in (x4 + 2) L = true then
  if g_in (x4 + 3) L = true then
  (mX6_tell 193 cp q63.1 (xs (x4 + 1).toNatClampNeg) (xs (x4 + 2).toNatClampNeg) (xs (x4 + 3).toNatClampNeg)).bind fun q68 => if ((k + 4) + q68.2.1.2.1) ≤ 601024 ∧ ((n + 6 * 4) + q68.2.1.2.2) ≤ 7293034 then
  (mX6_thrown q68.2.1.1 q68.1).bind fun q70 => if ((k + 4) + q68.2.1.2.1) ≤ 601024 ∧ ((n + 6 * 4) + q68.2.1.2.2) ≤ 7293034 then
  if q70.2 = q63.2 then
  if q63.2 = 0 then
  if g_in 0 1 = true then
  if (lg_cmp ((q70.1 192 (0 : Int32).toNatClampNeg).toInt64) q68.2.2.toInt64) = 0 then
  mL_law_b457 xs L K23 q68.2.1.1 ((k + 4) + q68.2.1.2.1) ((n + 6 * 4) + q68.2.1.2.2) q70.1 x4
  else
  none
  else none
  else
  mL_law_b457 xs L K23 q68.2.1.1 ((k + 4) + q68.2.1.2.1) ((n + 6 * 4) + q68.2.1.2.2) q70.1 x4
  else
  none
  else none
  else none
  else none
  else none
  else none
  else none
  else none
  else none
  else none
  else if ((xs x4.toNatClampNeg) &&& 31) = 5 then
  if g_in (x4 + 1) L = true then
  if g_in (x4 + 2) L = true then
  (mL_axle A (xs (x4 + 1).toNatClampNeg) (xs (x4 + 2).toNatClampNeg)).bind fun q79 => if (k + 3) ≤ 601024 ∧ (n + 6 * 3) ≤ 7293034 then
  if g_in (x4 + 1) L = true then
  if g_in (x4 + 2) L = true then
  (mX6_axle 193 cp q79.1 (xs (x4 + 1).toNatClampNeg) (xs (x4 + 2).toNatClampNeg)).bind fun q83 => if ((k + 3) + q83.2.1.2.1) ≤ 601024 ∧ ((n + 6 * 3) + q83.2.1.2.2) ≤ 7293034 then
  (mX6_thrown q83.2.1.1 q83.1).bind fun q85 => if ((k + 3) + q83.2.1.2.1) ≤ 601024 ∧ ((n + 6 * 3) + q83.2.1.2.2) ≤ 7293034 then
  if q85.2 = q79.2 then
  if q79.2 = 0 then
  if g_in 0 1 = true then
  if (lg_cmp ((q85.1 192 (0 : Int32).toNatClampNeg).toInt64) q83.2.2.toInt64) = 0 then
  mL_law_b525 xs L K23 q83.2.1.1 ((k + 3) + q83.2.1.2.1) ((n + 6 * 3) + q83.2.1.2.2) q85.1 x4
  else
  none
  else none
  else
  mL_law_b525 xs L K23 q83.2.1.1 ((k + 3) + q83.2.1.2.1) ((n + 6 * 3) + q83.2.1.2.2) q85.1 x4
  else
  none
  else none
  else none
  else none
  else none
  else none
  else none
  else none
  else if ((xs x4.toNatClampNeg) &&& 31) = 6 then
  if g_in (x4 + 1) L = true then
  if g_in (x4 + 2) L = true then
  (mL_end A (xs (x4 + 1).toNatClampNeg) (xs (x4 + 2).toNatClampNeg)).bind fun q94 => if (k + 3) ≤ 601024 ∧ (n + 6 * 3) ≤ 7293034 then
  if g_in (x4 + 1) L = true then
  if g_in (x4 + 2) L = true then
  (mX6_end 193 cp q94.1 (xs (x4 + 1).toNatClampNeg) (xs (x4 + 2).toNatClampNeg)).bind fun q98 => if ((k + 3) + q98.2.1.2.1) ≤ 601024 ∧ ((n + 6 * 3) + q98.2.1.2.2) ≤ 7293034 then
  (mX6_thrown q98.2.1.1 q98.1).bind fun q100 => if ((k + 3) + q98.2.1.2.1) ≤ 601024 ∧ ((n + 6 * 3) + q98.2.1.2.2) ≤ 7293034 then
  if q100.2 = q94.2 then
  if q94.2 = 0 then
  if g_in 0 1 = true then
  if (lg_cmp ((q100.1 192 (0 : Int32).toNatClampNeg).toInt64) q98.2.2.toInt64) = 0 then
  mL_law_b593 xs L K23 q98.2.1.1 ((k + 3) + q98.2.1.2.1) ((n + 6 * 3) + q98.2.1.2.2) q100.1 x4
  else
  none
  else none
  else
  mL_law_b593 xs L K23 q98.2.1.1 ((k + 3) + q98.2.1.2.1) ((n + 6 * 3) + q98.2.1.2.2) q100.1 x4
  else
  none
  else none
  else none
  else none
  else none
  else none
  else none
  else none
  else if ((xs x4.toNatClampNeg) &&& 31) = 7 then
  if g_in (x4 + 1) L = true then
  if g_in (x4 + 2) L = true then
  if g_in (x4 + 3) L = true then
  (mL_either A (xs (x4 + 1).toNatClampNeg) (xs (x4 + 2).toNatClampNeg) (xs (x4 + 3).toNatClampNeg)).bind fun q110 => if (k + 4) ≤ 601024 ∧ (n + 6 * 4) ≤ 7293034 then
  if g_in (x4 + 1) L = true then
  if g_in (x4 + 2) L = true then
  if g_in (x4 + 3) L = true then
  (mX6_either 193 cp q110.1 (xs (x4 + 1).toNatClampNeg) (xs (x4 + 2).toNatClampNeg) (xs (x4 + 3).toNatClampNeg)).bind fun q115 => if ((k + 4) + q115.2.1.2.1) ≤ 601024 ∧ ((n + 6 * 4) + q115.2.1.2.2) ≤ 7293034 then
  (mX6_thrown q115.2.1.1 q115.1).bind fun q117 => if ((k + 4) + q115.2.1.2.1) ≤ 601024 ∧ ((n + 6 * 4) + q115.2.1.2.2) ≤ 7293034 then
  if q117.2 = q110.2 then
  if q110.2 = 0 then
  if g_in 0 1 = true then
  if (lg_cmp ((q117.1 192 (0 : Int32).toNatClampNeg).toInt64) q115.2.2.toInt64) = 0 then
  mL_law_b673 xs L K23 q115.2.1.1 ((k + 4) + q115.2.1.2.1) ((n + 6 * 4) + q115.2.1.2.2) q117.1 x4
  else
  none
  else none
  else
  mL_law_b673 xs L K23 q115.2.1.1 ((k + 4) + q115.2.1.2.1) ((n + 6 * 4) + q115.2.1.2.2) q117.1 x4
  else
  none
  else none
  else none
  else none
  else none
  else none
  else none
  else none
  else none
  else none
  else if ((xs x4.toNatClampNeg) &&& 31) = 8 then
  (mL_undo A).bind fun q124 => if (k + 1) ≤ 601024 ∧ (n + 6 * 1) ≤ 7293034 then
  (mX6_undo cp q124.1).bind fun q126 => if (k + 1) ≤ 601024 ∧ (n + 6 * 1) ≤ 7293034 then
  (mX6_thrown cp q126.1).bind fun q128 => if (k + 1) ≤ 601024 ∧ (n + 6 * 1) ≤ 7293034 then
  if q128.2 = q124.2 then
  if q124.2 = 0 then
  if g_in 0 1 = true then
  if (lg_cmp ((q128.1 192 (0 : Int32).toNatClampNeg).toInt64) q126.2.toInt64) = 0 then
  mL_law_b717 xs L K23 cp (k + 1) (n + 6 * 1) q128.1 x4
  else
  none
  else none
  else
  mL_law_b717 xs L K23 cp (k + 1) (n + 6 * 1) q128.1 x4
  else
  none
  else none
  else none
  else none
  else if ((xs x4.toNatClampNeg) &&& 31) = 9 then
  if g_in (x4 + 1) L = true then
  if g_in (x4 + 2) L = true then
  (mL_part A (xs (x4 + 1).toNatClampNeg) (xs (x4 + 2).toNatClampNeg)).bind fun q137 => if (k + 2) ≤ 601024 ∧ (n + 6 * 2) ≤ 7293034 then
  if g_in (x4 + 1) L = true then
  if g_in (x4 + 2) L = true then
  (mX6_part cp q137.1 (xs (x4 + 1).toNatClampNeg) (xs (x4 + 2).toNatClampNeg)).bind fun q141 => if (k + 2) ≤ 601024 ∧ (n + 6 * 2) ≤ 7293034 then
  (mX6_thrown cp q141.1).bind fun q143 => if (k + 2) ≤ 601024 ∧ (n + 6 * 2) ≤ 7293034 then
  if q143.2 = q137.2 then
  if q137.2 = 0 then
  if g_in 0 1 = true then
  if (lg_cmp ((q143.1 192 (0 : Int32).toNatClampNeg).toInt64) q141.2.toInt64) = 0 then
  mL_law_b785 xs L K23 cp (k + 2) (n + 6 * 2) q143.1 x4
  else
  none
  else none
  else
  mL_law_b785 xs L K23 cp (k + 2) (n + 6 * 2) q143.1 x4
  else
  none
  else none
  else none
  else none
  else none
  else none
  else none
  else none
  else if ((xs x4.toNatClampNeg) &&& 31) = 10 then
  if g_in (x4 + 1) L = true then
  if g_in (x4 + 2) L = true then
  (mL_type A (xs (x4 + 1).toNatClampNeg) (xs (x4 + 2).toNatClampNeg)).bind fun q152 => if (k + 2) ≤ 601024 ∧ (n + 6 * 2) ≤ 7293034 then
  if g_in (x4 + 1) L = true then
  if g_in (x4 + 2) L = true then
  (mX6_type 193 cp q152.1 (xs (x4 + 1).toNatClampNeg) (xs (x4 + 2).toNatClampNeg)).bind fun q156 => if ((k + 2) + q156.2.1.2.1) ≤ 601024 ∧ ((n + 6 * 2) + q156.2.1.2.2) ≤ 7293034 then
  (mX6_thrown q156.2.1.1 q156.1).bind fun q158 => if ((k + 2) + q156.2.1.2.1) ≤ 601024 ∧ ((n + 6 * 2) + q156.2.1.2.2) ≤ 7293034 then
  if q158.2 = q152.2 then
  if q152.2 = 0 then
  if g_in 0 1 = true then
  if (lg_cmp ((q158.1 192 (0 : Int32).toNatClampNeg).toInt64) q156.2.2.toInt64) = 0 then
  mL_law_b853 xs L K23 q156.2.1.1 ((k + 2) + q156.2.1.2.1) ((n + 6 * 2) + q156.2.1.2.2) q158.1 x4
  else
  none
  else none
  else
  mL_law_b853 xs L K23 q156.2.1.1 ((k + 2) + q156.2.1.2.1) ((n + 6 * 2) + q156.2.1.2.2) q158.1 x4
  else
  none
  else none
  else none
  else none
  else none
  else none
  else none
  else none
  else if ((xs x4.toNatClampNeg) &&& 31) = 11 then
  if g_in (x4 + 1) L = true then
  if g_in (x4 + 2) L = true then
  (mL_code A (xs (x4 + 1).toNatClampNeg) (xs (x4 + 2).toNatClampNeg)).bind fun q167 => if (k + 2) ≤ 601024 ∧ (n + 6 * 2) ≤ 7293034 then
  if g_in (x4 + 1) L = true then
  if g_in (x4 + 2) L = true then
  (mX6_code 193 cp q167.1 (xs (x4 + 1).toNatClampNeg) (xs (x4 + 2).toNatClampNeg)).bind fun q171 => if ((k + 2) + q171.2.1.2.1) ≤ 601024 ∧ ((n + 6 * 2) + q171.2.1.2.2) ≤ 7293034 then
  (mX6_thrown q171.2.1.1 q171.1).bind fun q173 => if ((k + 2) + q171.2.1.2.1) ≤ 601024 ∧ ((n + 6 * 2) + q171.2.1.2.2) ≤ 7293034 then
  if q173.2 = q167.2 then
  if q167.2 = 0 then
  if g_in 0 1 = true then
  if (lg_cmp ((q173.1 192 (0 : Int32).toNatClampNeg).toInt64) q171.2.2.toInt64) = 0 then
  mL_law_b921 xs L K23 q171.2.1.1 ((k + 2) + q171.2.1.2.1) ((n + 6 * 2) + q171.2.1.2.2) q173.1 x4
  else
  none
  else none
  else
  mL_law_b921 xs L K23 q171.2.1.1 ((k + 2) + q171.2.1.2.1) ((n + 6 * 2) + q171.2.1.2.2) q173.1 x4
  else
  none
  else none
  else none
  else none
  else none
  else none
  else none
  else none
  else if ((xs x4.toNatClampNeg) &&& 31) = 12 then
  if g_in (x4 + 1) L = true then
  (mL_count A (xs (x4 + 1).toNatClampNeg)).bind fun q181 => if (k + 1) ≤ 601024 ∧ (n + 6 * 1) ≤ 7293034 then
  if g_in (x4 + 1) L = true then
  (mX6_count 193 cp q181.1 (xs (x4 + 1).toNatClampNeg)).bind fun q184 => if ((k + 1) + q184.2.1.2.1) ≤ 601024 ∧ ((n + 6 * 1) + q184.2.1.2.2) ≤ 7293034 then
  (mX6_thrown q184.2.1.1 q184.1).bind fun q186 => if ((k + 1) + q184.2.1.2.1) ≤ 601024 ∧ ((n + 6 * 1) + q184.2.1.2.2) ≤ 7293034 then
  if q186.2 = q181.2 then
  if q181.2 = 0 then
  if g_in 0 1 = true then
  if (lg_cmp ((q186.1 192 (0 : Int32).toNatClampNeg).toInt64) q184.2.2.toInt64) = 0 then
  mL_law_b977 xs L K23 q184.2.1.1 ((k + 1) + q184.2.1.2.1) ((n + 6 * 1) + q184.2.1.2.2) q186.1 x4
  else
  none
  else none
  else
  mL_law_b977 xs L K23 q184.2.1.1 ((k + 1) + q184.2.1.2.1) ((n + 6 * 1) + q184.2.1.2.2) q186.1 x4
  else
  none
  else none
  else none
  else none
  else none
  else none
  else if ((xs x4.toNatClampNeg) &&& 31) = 13 then
  if g_in (x4 + 1) L = true then
  if g_in (x4 + 2) L = true then
  (mL_same A (xs (x4 + 1).toNatClampNeg) (xs (x4 + 2).toNatClampNeg)).bind fun q195 => if (k + 2) ≤ 601024 ∧ (n + 6 * 2) ≤ 7293034 then
  if g_in (x4 + 1) L = true then
  if g_in (x4 + 2) L = true then
  (mX6_same 193 cp q195.1 (xs (x4 + 1).toNatClampNeg) (xs (x4 + 2).toNatClampNeg)).bind fun q199 => if ((k + 2) + q199.2.1.2.1) ≤ 601024 ∧ ((n + 6 * 2) + q199.2.1.2.2) ≤ 7293034 then
  (mX6_thrown q199.2.1.1 q199.1).bind fun q201 => if ((k + 2) + q199.2.1.2.1) ≤ 601024 ∧ ((n + 6 * 2) + q199.2.1.2.2) ≤ 7293034 then
  if q201.2 = q195.2 then
  if q195.2 = 0 then
  if g_in 0 1 = true then
  if q199.2.2 = 0 then
  mL_law_b1046 xs L K23 q199.2.1.1 ((k + 2) + q199.2.1.2.1) ((n + 6 * 2) + q199.2.1.2.2) q201.1 x4 ((q201.1 192 (0 : Int32).toNatClampNeg).toInt64) 0
  else
  mL_law_b1046 xs L K23 q199.2.1.1 ((k + 2) + q199.2.1.2.1) ((n + 6 * 2) + q199.2.1.2.2) q201.1 x4 ((q201.1 192 (0 : Int32).toNatClampNeg).toInt64) 1
  else none
  else
  mL_law_b1052 xs L K23 q199.2.1.1 ((k + 2) + q199.2.1.2.1) ((n + 6 * 2) + q199.2.1.2.2) q201.1 x4
  else
  none
  else none
  else none
  else none
  else none
  else none
  else none
  else none
  else if ((xs x4.toNatClampNeg) &&& 31) = 14 then
  if g_in (x4 + 1) L = true then
  if g_in (x4 + 2) L = true then
  (mL_fits A (xs (x4 + 1).toNatClampNeg) (xs (x4 + 2).toNatClampNeg)).bind fun q210 => if (k + 2) ≤ 601024 ∧ (n + 6 * 2) ≤ 7293034 then
  if g_in (x4 + 1) L = true then
  if g_in (x4 + 2) L = true then
  (mX6_fits 193 cp q210.1 (xs (x4 + 1).toNatClampNeg) (xs (x4 + 2).toNatClampNeg)).bind fun q214 => if ((k + 2) + q214.2.1.2.1) ≤ 601024 ∧ ((n + 6 * 2) + q214.2.1.2.2) ≤ 7293034 then
  (mX6_thrown q214.2.1.1 q214.1).bind fun q216 => if ((k + 2) + q214.2.1.2.1) ≤ 601024 ∧ ((n + 6 * 2) + q214.2.1.2.2) ≤ 7293034 then
  if q216.2 = q210.2 then
  if q210.2 = 0 then
  if g_in 0 1 = true then
  if q214.2.2 = 0 then
  mL_law_b1121 xs L K23 q214.2.1.1 ((k + 2) + q214.2.1.2.1) ((n + 6 * 2) + q214.2.1.2.2) q216.1 x4 ((q216.1 192 (0 : Int32).toNatClampNeg).toInt64) 0
  else
  mL_law_b1121 xs L K23 q214.2.1.1 ((k + 2) + q214.2.1.2.1) ((n + 6 * 2) + q214.2.1.2.2) q216.1 x4 ((q216.1 192 (0 : Int32).toNatClampNeg).toInt64) 1
  else none
  else
  mL_law_b1127 xs L K23 q214.2.1.1 ((k + 2) + q214.2.1.2.1) ((n + 6 * 2) + q214.2.1.2.2) q216.1 x4
  else
  none
  else none
  else none
  else none
  else none
  else none
  else none
  else none
  else if ((xs x4.toNatClampNeg) &&& 31) = 15 then
  if g_in (x4 + 1) L = true then
  if g_in (x4 + 2) L = true then
  (mL_goes A (xs (x4 + 1).toNatClampNeg) (xs (x4 + 2).toNatClampNeg)).bind fun q225 => if (k + 2) ≤ 601024 ∧ (n + 6 * 2) ≤ 7293034 then
  if g_in (x4 + 1) L = true then
  if g_in (x4 + 2) L = true then
  (mX6_goes 193 cp q225.1 (xs (x4 + 1).toNatClampNeg) (xs (x4 + 2).toNatClampNeg)).bind fun q229 => if ((k + 2) + q229.2.1.2.1) ≤ 601024 ∧ ((n + 6 * 2) + q229.2.1.2.2) ≤ 7293034 then
  (mX6_thrown q229.2.1.1 q229.1).bind fun q231 => if ((k + 2) + q229.2.1.2.1) ≤ 601024 ∧ ((n + 6 * 2) + q229.2.1.2.2) ≤ 7293034 then
  if q231.2 = q225.2 then
  if q225.2 = 0 then
  if g_in 0 1 = true then
  if (lg_cmp ((q231.1 192 (0 : Int32).toNatClampNeg).toInt64) q229.2.2.toInt64) = 0 then
  mL_law_b1195 xs L K23 q229.2.1.1 ((k + 2) + q229.2.1.2.1) ((n + 6 * 2) + q229.2.1.2.2) q231.1 x4
  else
  none
  else none
  else
  mL_law_b1195 xs L K23 q229.2.1.1 ((k + 2) + q229.2.1.2.1) ((n + 6 * 2) + q229.2.1.2.2) q231.1 x4
  else
  none
  else none
  else none
  else none
  else none
  else none
  else none
  else none
  else if ((xs x4.toNatClampNeg) &&& 31) = 16 then
  if g_in (x4 + 1) L = true then
  (mL_first A (xs (x4 + 1).toNatClampNeg)).bind fun q239 => if (k + 1) ≤ 601024 ∧ (n + 6 * 1) ≤ 7293034 then
  if g_in (x4 + 1) L = true then
  (mX6_first 193 cp q239.1 (xs (x4 + 1).toNatClampNeg)).bind fun q242 => if ((k + 1) + q242.2.1.2.1) ≤ 601024 ∧ ((n + 6 * 1) + q242.2.1.2.2) ≤ 7293034 then
  (mX6_thrown q242.2.1.1 q242.1).bind fun q244 => if ((k + 1) + q242.2.1.2.1) ≤ 601024 ∧ ((n + 6 * 1) + q242.2.1.2.2) ≤ 7293034 then
  if q244.2 = q239.2 then
  if q239.2 = 0 then
  if g_in 0 1 = true then
  if (lg_cmp ((q244.1 192 (0 : Int32).toNatClampNeg).toInt64) q242.2.2.toInt64) = 0 then
  mL_law_b1251 xs L K23 q242.2.1.1 ((k + 1) + q242.2.1.2.1) ((n + 6 * 1) + q242.2.1.2.2) q244.1 x4
  else
  none
  else none
  else
  mL_law_b1251 xs L K23 q242.2.1.1 ((k + 1) + q242.2.1.2.1) ((n + 6 * 1) + q242.2.1.2.2) q244.1 x4
  else
  none
  else none
  else none
  else none
  else none
  else none
  else if ((xs x4.toNatClampNeg) &&& 31) = 17 then
  (mX5_longest A).bind fun q251 => if k ≤ 601024 ∧ n ≤ 7293034 then
  (mX6_longest 193 cp q251.1).bind fun q253 => if (k + q253.2.1.2.1) ≤ 601024 ∧ (n + q253.2.1.2.2) ≤ 7293034 then
  if q251.2 = q253.2.2 then
  mL_law_b1322 xs L K23 q253.2.1.1 (k + q253.2.1.2.1) (n + q253.2.1.2.2) q253.1 x4
  else
  none
  else none
  else none
  else if ((xs x4.toNatClampNeg) &&& 31) = 18 then
  (mX5_mean A).bind fun q257 => if k ≤ 601024 ∧ n ≤ 7293034 then
  (mX6_mean 193 cp q257.1).bind fun q259 => if (k + q259.2.1.2.1) ≤ 601024 ∧ (n + q259.2.1.2.2) ≤ 7293034 then
  if (Op.cmpValue (FP.dcmp q257.2 q259.2.2) .l) = 0 then
  mL_law_b1305 xs L K23 q259.2.1.1 (k + q259.2.1.2.1) (n + q259.2.1.2.2) q259.1 x4
  else
  if (Op.cmpValue (FP.dcmp q257.2 q257.2) .l) = 0 then
  mL_law_b1303 xs L q259.2.1.1 (k + q259.2.1.2.1) (n + q259.2.1.2.2) q259.1
  else
  if (Op.cmpValue (FP.dcmp q259.2.2 q259.2.2) .l) = 0 then
  mL_law_b1303 xs L q259.2.1.1 (k + q259.2.1.2.1) (n + q259.2.1.2.2) q259.1
  else
  mL_law_b1305 xs L K23 q259.2.1.1 (k + q259.2.1.2.1) (n + q259.2.1.2.2) q259.1 x4
  else none
  else none
  else if ((xs x4.toNatClampNeg) &&& 31) = 19 then
  (mX5_digest A).bind fun q265 => if k ≤ 601024 ∧ n ≤ 7293034 then
  (mX6_digest 193 cp q265.1).bind fun q267 => if (k + q267.2.1.2.1) ≤ 601024 ∧ (n + q267.2.1.2.2) ≤ 7293034 then
  if (lg_cmp q265.2 q267.2.2) = 0 then
  mL_law_b1322 xs L K23 q267.2.1.1 (k + q267.2.1.2.1) (n + q267.2.1.2.2) q267.1 x4
  else
  none
  else none
  else none
  else mL_law_b1322 xs L K23 cp k n A x4
  else none
def mL_law_L23 (xs : Nat → Int32) (L : Nat) : Nat → Nat → Nat → Nat → gM → Int32 → Option Unit
  | 0 => fun _ _ _ _ _ => none
  | f + 1 => fun cp k n A x4 => mL_law_b23 xs L (mL_law_L23 xs L f) cp k n A x4
set_option maxHeartbeats 4000000 in
set_option maxRecDepth 20000 in
theorem wL_law_b1322 (C : gC p room_1 s m #[Value.ref b] meth c cL_law RL 9 D g (fun q : Nat => s.heap.size ≤ q) 2048) (CX : gLX l s meth b L xs) {K23 : Nat → Nat → Nat → gM → Int32 → Option Unit} (hK23 : ∀ {ad ln : Nat → Nat} {cp k n : Nat} (_ : g_cap ln cp) {A : gM} {x4 : Int32}, K23 cp k n A x4 = some () → gJ p l e room_1 s m #[Value.ref b] below meth c (lw_Z below #[Value.ref b] s) 9 D g (fun q : Nat => s.heap.size ≤ q) 193 ad ln A [(0, .inr (.ref b)), (1, gr 0), (2, gr 183), (3, gr 192), (4, gi x4)] k n 23 []) {cp k n : Nat} (hcp : g_cap ln cp) {A : gM} {x4 : Int32} (h : mL_law_b1322 xs L K23 cp k n A x4 = some ()) : gJ p l e room_1 s m #[Value.ref b] below meth c (lw_Z below #[Value.ref b] s) 9 D g (fun q : Nat => s.heap.size ≤ q) 193 ad ln A [(0, .inr (.ref b)), (1, gr 0), (2, gr 183), (3, gr 192), (4, gi x4)] k n 1322 [] := by
  unfold mL_law_b1322 at h
  obtain ⟨v1, ev1, h⟩ := g_lt h
  refine g_iinc C 4 dL_law_1322 rfl ev1 (by decide) rfl ?_
  refine g_goto C dL_law_1325 (tgt := 23) (by decide) ?_
  refine g_sub [1, 2, 3, 4, 0] rfl ?_
  exact hK23 hcp h

set_option maxHeartbeats 4000000 in
set_option maxRecDepth 20000 in
theorem wL_law_b1305 (C : gC p room_1 s m #[Value.ref b] meth c cL_law RL 9 D g (fun q : Nat => s.heap.size ≤ q) 2048) (CX : gLX l s meth b L xs) {K23 : Nat → Nat → Nat → gM → Int32 → Option Unit} (hK23 : ∀ {ad ln : Nat → Nat} {cp k n : Nat} (_ : g_cap ln cp) {A : gM} {x4 : Int32}, K23 cp k n A x4 = some () → gJ p l e room_1 s m #[Value.ref b] below meth c (lw_Z below #[Value.ref b] s) 9 D g (fun q : Nat => s.heap.size ≤ q) 193 ad ln A [(0, .inr (.ref b)), (1, gr 0), (2, gr 183), (3, gr 192), (4, gi x4)] k n 23 []) {cp k n : Nat} (hcp : g_cap ln cp) {A : gM} {x4 : Int32} (h : mL_law_b1305 xs L K23 cp k n A x4 = some ()) : gJ p l e room_1 s m #[Value.ref b] below meth c (lw_Z below #[Value.ref b] s) 9 D g (fun q : Nat => s.heap.size ≤ q) 193 ad ln A [(0, .inr (.ref b)), (1, gr 0), (2, gr 183), (3, gr 192), (4, gi x4)] k n 1305 [] := by
  unfold mL_law_b1305 at h
  refine g_goto C dL_law_1305 (tgt := 1322) (by decide) ?_
  refine g_sub [0, 1, 2, 3, 4] rfl ?_
  exact wL_law_b1322 C CX hK23 hcp h

set_option maxHeartbeats 4000000 in
set_option maxRecDepth 20000 in
theorem wL_law_b1303 (C : gC p room_1 s m #[Value.ref b] meth c cL_law RL 9 D g (fun q : Nat => s.heap.size ≤ q) 2048) (CX : gLX l s meth b L xs)  {cp k n : Nat} (hcp : g_cap ln cp) {A : gM} (h : mL_law_b1303 xs L cp k n A = some ()) : gJ p l e room_1 s m #[Value.ref b] below meth c (lw_Z below #[Value.ref b] s) 9 D g (fun q : Nat => s.heap.size ≤ q) 193 ad ln A [] k n 1303 [] := by
  unfold mL_law_b1303 at h
  refine g_iconst (v := 0) C dL_law_1303 (by decide) ?_
  cases h

set_option maxHeartbeats 4000000 in
set_option maxRecDepth 20000 in
theorem wL_law_b1251 (C : gC p room_1 s m #[Value.ref b] meth c cL_law RL 9 D g (fun q : Nat => s.heap.size ≤ q) 2048) (CX : gLX l s meth b L xs) {K23 : Nat → Nat → Nat → gM → Int32 → Option Unit} (hK23 : ∀ {ad ln : Nat → Nat} {cp k n : Nat} (_ : g_cap ln cp) {A : gM} {x4 : Int32}, K23 cp k n A x4 = some () → gJ p l e room_1 s m #[Value.ref b] below meth c (lw_Z below #[Value.ref b] s) 9 D g (fun q : Nat => s.heap.size ≤ q) 193 ad ln A [(0, .inr (.ref b)), (1, gr 0), (2, gr 183), (3, gr 192), (4, gi x4)] k n 23 []) {cp k n : Nat} (hcp : g_cap ln cp) {A : gM} {x4 : Int32} (h : mL_law_b1251 xs L K23 cp k n A x4 = some ()) : gJ p l e room_1 s m #[Value.ref b] below meth c (lw_Z below #[Value.ref b] s) 9 D g (fun q : Nat => s.heap.size ≤ q) 193 ad ln A [(0, .inr (.ref b)), (1, gr 0), (2, gr 183), (3, gr 192), (4, gi x4)] k n 1251 [] := by
  unfold mL_law_b1251 at h
  refine g_goto C dL_law_1251 (tgt := 1322) (by decide) ?_
  refine g_sub [0, 1, 2, 3, 4] rfl ?_
  exact wL_law_b1322 C CX hK23 hcp h

set_option maxHeartbeats 4000000 in
set_option maxRecDepth 20000 in
theorem wL_law_b1195 (C : gC p room_1 s m #[Value.ref b] meth c cL_law RL 9 D g (fun q : Nat => s.heap.size ≤ q) 2048) (CX : gLX l s meth b L xs) {K23 : Nat → Nat → Nat → gM → Int32 → Option Unit} (hK23 : ∀ {ad ln : Nat → Nat} {cp k n : Nat} (_ : g_cap ln cp) {A : gM} {x4 : Int32}, K23 cp k n A x4 = some () → gJ p l e room_1 s m #[Value.ref b] below meth c (lw_Z below #[Value.ref b] s) 9 D g (fun q : Nat => s.heap.size ≤ q) 193 ad ln A [(0, .inr (.ref b)), (1, gr 0), (2, gr 183), (3, gr 192), (4, gi x4)] k n 23 []) {cp k n : Nat} (hcp : g_cap ln cp) {A : gM} {x4 : Int32} (h : mL_law_b1195 xs L K23 cp k n A x4 = some ()) : gJ p l e room_1 s m #[Value.ref b] below meth c (lw_Z below #[Value.ref b] s) 9 D g (fun q : Nat => s.heap.size ≤ q) 193 ad ln A [(0, .inr (.ref b)), (1, gr 0), (2, gr 183), (3, gr 192), (4, gi x4)] k n 1195 [] := by
  unfold mL_law_b1195 at h
  refine g_goto C dL_law_1195 (tgt := 1322) (by decide) ?_
  refine g_sub [0, 1, 2, 3, 4] rfl ?_
  exact wL_law_b1322 C CX hK23 hcp h

set_option maxHeartbeats 4000000 in
set_option maxRecDepth 20000 in
theorem wL_law_b1127 (C : gC p room_1 s m #[Value.ref b] meth c cL_law RL 9 D g (fun q : Nat => s.heap.size ≤ q) 2048) (CX : gLX l s meth b L xs) {K23 : Nat → Nat → Nat → gM → Int32 → Option Unit} (hK23 : ∀ {ad ln : Nat → Nat} {cp k n : Nat} (_ : g_cap ln cp) {A : gM} {x4 : Int32}, K23 cp k n A x4 = some () → gJ p l e room_1 s m #[Value.ref b] below meth c (lw_Z below #[Value.ref b] s) 9 D g (fun q : Nat => s.heap.size ≤ q) 193 ad ln A [(0, .inr (.ref b)), (1, gr 0), (2, gr 183), (3, gr 192), (4, gi x4)] k n 23 []) {cp k n : Nat} (hcp : g_cap ln cp) {A : gM} {x4 : Int32} (h : mL_law_b1127 xs L K23 cp k n A x4 = some ()) : gJ p l e room_1 s m #[Value.ref b] below meth c (lw_Z below #[Value.ref b] s) 9 D g (fun q : Nat => s.heap.size ≤ q) 193 ad ln A [(0, .inr (.ref b)), (1, gr 0), (2, gr 183), (3, gr 192), (4, gi x4)] k n 1127 [] := by
  unfold mL_law_b1127 at h
  refine g_goto C dL_law_1127 (tgt := 1322) (by decide) ?_
  refine g_sub [0, 1, 2, 3, 4] rfl ?_
  exact wL_law_b1322 C CX hK23 hcp h

set_option maxHeartbeats 4000000 in
set_option maxRecDepth 20000 in
theorem wL_law_b1121 (C : gC p room_1 s m #[Value.ref b] meth c cL_law RL 9 D g (fun q : Nat => s.heap.size ≤ q) 2048) (CX : gLX l s meth b L xs) {K23 : Nat → Nat → Nat → gM → Int32 → Option Unit} (hK23 : ∀ {ad ln : Nat → Nat} {cp k n : Nat} (_ : g_cap ln cp) {A : gM} {x4 : Int32}, K23 cp k n A x4 = some () → gJ p l e room_1 s m #[Value.ref b] below meth c (lw_Z below #[Value.ref b] s) 9 D g (fun q : Nat => s.heap.size ≤ q) 193 ad ln A [(0, .inr (.ref b)), (1, gr 0), (2, gr 183), (3, gr 192), (4, gi x4)] k n 23 []) {cp k n : Nat} (hcp : g_cap ln cp) {A : gM} {x4 : Int32} {s0 : Int64} {s1 : Int64} (h : mL_law_b1121 xs L K23 cp k n A x4 s0 s1 = some ()) : gJ p l e room_1 s m #[Value.ref b] below meth c (lw_Z below #[Value.ref b] s) 9 D g (fun q : Nat => s.heap.size ≤ q) 193 ad ln A [(0, .inr (.ref b)), (1, gr 0), (2, gr 183), (3, gr 192), (4, gi x4)] k n 1121 [gl s1, gl s0] := by
  unfold mL_law_b1121 at h
  refine g_lcmp C dL_law_1121 ?_
  refine g_if_eq C dL_law_1122 (tgt := 1127) (by decide) (fun c1 => ?_) (fun c1 => ?_)
  · have h := g_tt c1 h
    refine g_sub [0, 1, 2, 3, 4] rfl ?_
    exact wL_law_b1127 C CX hK23 hcp h
  · have h := g_ff c1 h
    refine g_iconst (v := 0) C dL_law_1125 (by decide) ?_
    cases h

set_option maxHeartbeats 4000000 in
set_option maxRecDepth 20000 in
theorem wL_law_b1052 (C : gC p room_1 s m #[Value.ref b] meth c cL_law RL 9 D g (fun q : Nat => s.heap.size ≤ q) 2048) (CX : gLX l s meth b L xs) {K23 : Nat → Nat → Nat → gM → Int32 → Option Unit} (hK23 : ∀ {ad ln : Nat → Nat} {cp k n : Nat} (_ : g_cap ln cp) {A : gM} {x4 : Int32}, K23 cp k n A x4 = some () → gJ p l e room_1 s m #[Value.ref b] below meth c (lw_Z below #[Value.ref b] s) 9 D g (fun q : Nat => s.heap.size ≤ q) 193 ad ln A [(0, .inr (.ref b)), (1, gr 0), (2, gr 183), (3, gr 192), (4, gi x4)] k n 23 []) {cp k n : Nat} (hcp : g_cap ln cp) {A : gM} {x4 : Int32} (h : mL_law_b1052 xs L K23 cp k n A x4 = some ()) : gJ p l e room_1 s m #[Value.ref b] below meth c (lw_Z below #[Value.ref b] s) 9 D g (fun q : Nat => s.heap.size ≤ q) 193 ad ln A [(0, .inr (.ref b)), (1, gr 0), (2, gr 183), (3, gr 192), (4, gi x4)] k n 1052 [] := by
  unfold mL_law_b1052 at h
  refine g_goto C dL_law_1052 (tgt := 1322) (by decide) ?_
  refine g_sub [0, 1, 2, 3, 4] rfl ?_
  exact wL_law_b1322 C CX hK23 hcp h

set_option maxHeartbeats 4000000 in
set_option maxRecDepth 20000 in
theorem wL_law_b1046 (C : gC p room_1 s m #[Value.ref b] meth c cL_law RL 9 D g (fun q : Nat => s.heap.size ≤ q) 2048) (CX : gLX l s meth b L xs) {K23 : Nat → Nat → Nat → gM → Int32 → Option Unit} (hK23 : ∀ {ad ln : Nat → Nat} {cp k n : Nat} (_ : g_cap ln cp) {A : gM} {x4 : Int32}, K23 cp k n A x4 = some () → gJ p l e room_1 s m #[Value.ref b] below meth c (lw_Z below #[Value.ref b] s) 9 D g (fun q : Nat => s.heap.size ≤ q) 193 ad ln A [(0, .inr (.ref b)), (1, gr 0), (2, gr 183), (3, gr 192), (4, gi x4)] k n 23 []) {cp k n : Nat} (hcp : g_cap ln cp) {A : gM} {x4 : Int32} {s0 : Int64} {s1 : Int64} (h : mL_law_b1046 xs L K23 cp k n A x4 s0 s1 = some ()) : gJ p l e room_1 s m #[Value.ref b] below meth c (lw_Z below #[Value.ref b] s) 9 D g (fun q : Nat => s.heap.size ≤ q) 193 ad ln A [(0, .inr (.ref b)), (1, gr 0), (2, gr 183), (3, gr 192), (4, gi x4)] k n 1046 [gl s1, gl s0] := by
  unfold mL_law_b1046 at h
  refine g_lcmp C dL_law_1046 ?_
  refine g_if_eq C dL_law_1047 (tgt := 1052) (by decide) (fun c1 => ?_) (fun c1 => ?_)
  · have h := g_tt c1 h
    refine g_sub [0, 1, 2, 3, 4] rfl ?_
    exact wL_law_b1052 C CX hK23 hcp h
  · have h := g_ff c1 h
    refine g_iconst (v := 0) C dL_law_1050 (by decide) ?_
    cases h

set_option maxHeartbeats 4000000 in
set_option maxRecDepth 20000 in
theorem wL_law_b977 (C : gC p room_1 s m #[Value.ref b] meth c cL_law RL 9 D g (fun q : Nat => s.heap.size ≤ q) 2048) (CX : gLX l s meth b L xs) {K23 : Nat → Nat → Nat → gM → Int32 → Option Unit} (hK23 : ∀ {ad ln : Nat → Nat} {cp k n : Nat} (_ : g_cap ln cp) {A : gM} {x4 : Int32}, K23 cp k n A x4 = some () → gJ p l e room_1 s m #[Value.ref b] below meth c (lw_Z below #[Value.ref b] s) 9 D g (fun q : Nat => s.heap.size ≤ q) 193 ad ln A [(0, .inr (.ref b)), (1, gr 0), (2, gr 183), (3, gr 192), (4, gi x4)] k n 23 []) {cp k n : Nat} (hcp : g_cap ln cp) {A : gM} {x4 : Int32} (h : mL_law_b977 xs L K23 cp k n A x4 = some ()) : gJ p l e room_1 s m #[Value.ref b] below meth c (lw_Z below #[Value.ref b] s) 9 D g (fun q : Nat => s.heap.size ≤ q) 193 ad ln A [(0, .inr (.ref b)), (1, gr 0), (2, gr 183), (3, gr 192), (4, gi x4)] k n 977 [] := by
  unfold mL_law_b977 at h
  refine g_goto C dL_law_977 (tgt := 1322) (by decide) ?_
  refine g_sub [0, 1, 2, 3, 4] rfl ?_
  exact wL_law_b1322 C CX hK23 hcp h

set_option maxHeartbeats 4000000 in
set_option maxRecDepth 20000 in
theorem wL_law_b921 (C : gC p room_1 s m #[Value.ref b] meth c cL_law RL 9 D g (fun q : Nat => s.heap.size ≤ q) 2048) (CX : gLX l s meth b L xs) {K23 : Nat → Nat → Nat → gM → Int32 → Option Unit} (hK23 : ∀ {ad ln : Nat → Nat} {cp k n : Nat} (_ : g_cap ln cp) {A : gM} {x4 : Int32}, K23 cp k n A x4 = some () → gJ p l e room_1 s m #[Value.ref b] below meth c (lw_Z below #[Value.ref b] s) 9 D g (fun q : Nat => s.heap.size ≤ q) 193 ad ln A [(0, .inr (.ref b)), (1, gr 0), (2, gr 183), (3, gr 192), (4, gi x4)] k n 23 []) {cp k n : Nat} (hcp : g_cap ln cp) {A : gM} {x4 : Int32} (h : mL_law_b921 xs L K23 cp k n A x4 = some ()) : gJ p l e room_1 s m #[Value.ref b] below meth c (lw_Z below #[Value.ref b] s) 9 D g (fun q : Nat => s.heap.size ≤ q) 193 ad ln A [(0, .inr (.ref b)), (1, gr 0), (2, gr 183), (3, gr 192), (4, gi x4)] k n 921 [] := by
  unfold mL_law_b921 at h
  refine g_goto C dL_law_921 (tgt := 1322) (by decide) ?_
  refine g_sub [0, 1, 2, 3, 4] rfl ?_
  exact wL_law_b1322 C CX hK23 hcp h

set_option maxHeartbeats 4000000 in
set_option maxRecDepth 20000 in
theorem wL_law_b853 (C : gC p room_1 s m #[Value.ref b] meth c cL_law RL 9 D g (fun q : Nat => s.heap.size ≤ q) 2048) (CX : gLX l s meth b L xs) {K23 : Nat → Nat → Nat → gM → Int32 → Option Unit} (hK23 : ∀ {ad ln : Nat → Nat} {cp k n : Nat} (_ : g_cap ln cp) {A : gM} {x4 : Int32}, K23 cp k n A x4 = some () → gJ p l e room_1 s m #[Value.ref b] below meth c (lw_Z below #[Value.ref b] s) 9 D g (fun q : Nat => s.heap.size ≤ q) 193 ad ln A [(0, .inr (.ref b)), (1, gr 0), (2, gr 183), (3, gr 192), (4, gi x4)] k n 23 []) {cp k n : Nat} (hcp : g_cap ln cp) {A : gM} {x4 : Int32} (h : mL_law_b853 xs L K23 cp k n A x4 = some ()) : gJ p l e room_1 s m #[Value.ref b] below meth c (lw_Z below #[Value.ref b] s) 9 D g (fun q : Nat => s.heap.size ≤ q) 193 ad ln A [(0, .inr (.ref b)), (1, gr 0), (2, gr 183), (3, gr 192), (4, gi x4)] k n 853 [] := by
  unfold mL_law_b853 at h
  refine g_goto C dL_law_853 (tgt := 1322) (by decide) ?_
  refine g_sub [0, 1, 2, 3, 4] rfl ?_
  exact wL_law_b1322 C CX hK23 hcp h

set_option maxHeartbeats 4000000 in
set_option maxRecDepth 20000 in
theorem wL_law_b785 (C : gC p room_1 s m #[Value.ref b] meth c cL_law RL 9 D g (fun q : Nat => s.heap.size ≤ q) 2048) (CX : gLX l s meth b L xs) {K23 : Nat → Nat → Nat → gM → Int32 → Option Unit} (hK23 : ∀ {ad ln : Nat → Nat} {cp k n : Nat} (_ : g_cap ln cp) {A : gM} {x4 : Int32}, K23 cp k n A x4 = some () → gJ p l e room_1 s m #[Value.ref b] below meth c (lw_Z below #[Value.ref b] s) 9 D g (fun q : Nat => s.heap.size ≤ q) 193 ad ln A [(0, .inr (.ref b)), (1, gr 0), (2, gr 183), (3, gr 192), (4, gi x4)] k n 23 []) {cp k n : Nat} (hcp : g_cap ln cp) {A : gM} {x4 : Int32} (h : mL_law_b785 xs L K23 cp k n A x4 = some ()) : gJ p l e room_1 s m #[Value.ref b] below meth c (lw_Z below #[Value.ref b] s) 9 D g (fun q : Nat => s.heap.size ≤ q) 193 ad ln A [(0, .inr (.ref b)), (1, gr 0), (2, gr 183), (3, gr 192), (4, gi x4)] k n 785 [] := by
  unfold mL_law_b785 at h
  refine g_goto C dL_law_785 (tgt := 1322) (by decide) ?_
  refine g_sub [0, 1, 2, 3, 4] rfl ?_
  exact wL_law_b1322 C CX hK23 hcp h

set_option maxHeartbeats 4000000 in
set_option maxRecDepth 20000 in
theorem wL_law_b717 (C : gC p room_1 s m #[Value.ref b] meth c cL_law RL 9 D g (fun q : Nat => s.heap.size ≤ q) 2048) (CX : gLX l s meth b L xs) {K23 : Nat → Nat → Nat → gM → Int32 → Option Unit} (hK23 : ∀ {ad ln : Nat → Nat} {cp k n : Nat} (_ : g_cap ln cp) {A : gM} {x4 : Int32}, K23 cp k n A x4 = some () → gJ p l e room_1 s m #[Value.ref b] below meth c (lw_Z below #[Value.ref b] s) 9 D g (fun q : Nat => s.heap.size ≤ q) 193 ad ln A [(0, .inr (.ref b)), (1, gr 0), (2, gr 183), (3, gr 192), (4, gi x4)] k n 23 []) {cp k n : Nat} (hcp : g_cap ln cp) {A : gM} {x4 : Int32} (h : mL_law_b717 xs L K23 cp k n A x4 = some ()) : gJ p l e room_1 s m #[Value.ref b] below meth c (lw_Z below #[Value.ref b] s) 9 D g (fun q : Nat => s.heap.size ≤ q) 193 ad ln A [(0, .inr (.ref b)), (1, gr 0), (2, gr 183), (3, gr 192), (4, gi x4)] k n 717 [] := by
  unfold mL_law_b717 at h
  refine g_goto C dL_law_717 (tgt := 1322) (by decide) ?_
  refine g_sub [0, 1, 2, 3, 4] rfl ?_
  exact wL_law_b1322 C CX hK23 hcp h

set_option maxHeartbeats 4000000 in
set_option maxRecDepth 20000 in
theorem wL_law_b673 (C : gC p room_1 s m #[Value.ref b] meth c cL_law RL 9 D g (fun q : Nat => s.heap.size ≤ q) 2048) (CX : gLX l s meth b L xs) {K23 : Nat → Nat → Nat → gM → Int32 → Option Unit} (hK23 : ∀ {ad ln : Nat → Nat} {cp k n : Nat} (_ : g_cap ln cp) {A : gM} {x4 : Int32}, K23 cp k n A x4 = some () → gJ p l e room_1 s m #[Value.ref b] below meth c (lw_Z below #[Value.ref b] s) 9 D g (fun q : Nat => s.heap.size ≤ q) 193 ad ln A [(0, .inr (.ref b)), (1, gr 0), (2, gr 183), (3, gr 192), (4, gi x4)] k n 23 []) {cp k n : Nat} (hcp : g_cap ln cp) {A : gM} {x4 : Int32} (h : mL_law_b673 xs L K23 cp k n A x4 = some ()) : gJ p l e room_1 s m #[Value.ref b] below meth c (lw_Z below #[Value.ref b] s) 9 D g (fun q : Nat => s.heap.size ≤ q) 193 ad ln A [(0, .inr (.ref b)), (1, gr 0), (2, gr 183), (3, gr 192), (4, gi x4)] k n 673 [] := by
  unfold mL_law_b673 at h
  refine g_goto C dL_law_673 (tgt := 1322) (by decide) ?_
  refine g_sub [0, 1, 2, 3, 4] rfl ?_
  exact wL_law_b1322 C CX hK23 hcp h

set_option maxHeartbeats 4000000 in
set_option maxRecDepth 20000 in
theorem wL_law_b593 (C : gC p room_1 s m #[Value.ref b] meth c cL_law RL 9 D g (fun q : Nat => s.heap.size ≤ q) 2048) (CX : gLX l s meth b L xs) {K23 : Nat → Nat → Nat → gM → Int32 → Option Unit} (hK23 : ∀ {ad ln : Nat → Nat} {cp k n : Nat} (_ : g_cap ln cp) {A : gM} {x4 : Int32}, K23 cp k n A x4 = some () → gJ p l e room_1 s m #[Value.ref b] below meth c (lw_Z below #[Value.ref b] s) 9 D g (fun q : Nat => s.heap.size ≤ q) 193 ad ln A [(0, .inr (.ref b)), (1, gr 0), (2, gr 183), (3, gr 192), (4, gi x4)] k n 23 []) {cp k n : Nat} (hcp : g_cap ln cp) {A : gM} {x4 : Int32} (h : mL_law_b593 xs L K23 cp k n A x4 = some ()) : gJ p l e room_1 s m #[Value.ref b] below meth c (lw_Z below #[Value.ref b] s) 9 D g (fun q : Nat => s.heap.size ≤ q) 193 ad ln A [(0, .inr (.ref b)), (1, gr 0), (2, gr 183), (3, gr 192), (4, gi x4)] k n 593 [] := by
  unfold mL_law_b593 at h
  refine g_goto C dL_law_593 (tgt := 1322) (by decide) ?_
  refine g_sub [0, 1, 2, 3, 4] rfl ?_
  exact wL_law_b1322 C CX hK23 hcp h

set_option maxHeartbeats 4000000 in
set_option maxRecDepth 20000 in
theorem wL_law_b525 (C : gC p room_1 s m #[Value.ref b] meth c cL_law RL 9 D g (fun q : Nat => s.heap.size ≤ q) 2048) (CX : gLX l s meth b L xs) {K23 : Nat → Nat → Nat → gM → Int32 → Option Unit} (hK23 : ∀ {ad ln : Nat → Nat} {cp k n : Nat} (_ : g_cap ln cp) {A : gM} {x4 : Int32}, K23 cp k n A x4 = some () → gJ p l e room_1 s m #[Value.ref b] below meth c (lw_Z below #[Value.ref b] s) 9 D g (fun q : Nat => s.heap.size ≤ q) 193 ad ln A [(0, .inr (.ref b)), (1, gr 0), (2, gr 183), (3, gr 192), (4, gi x4)] k n 23 []) {cp k n : Nat} (hcp : g_cap ln cp) {A : gM} {x4 : Int32} (h : mL_law_b525 xs L K23 cp k n A x4 = some ()) : gJ p l e room_1 s m #[Value.ref b] below meth c (lw_Z below #[Value.ref b] s) 9 D g (fun q : Nat => s.heap.size ≤ q) 193 ad ln A [(0, .inr (.ref b)), (1, gr 0), (2, gr 183), (3, gr 192), (4, gi x4)] k n 525 [] := by
  unfold mL_law_b525 at h
  refine g_goto C dL_law_525 (tgt := 1322) (by decide) ?_
  refine g_sub [0, 1, 2, 3, 4] rfl ?_
  exact wL_law_b1322 C CX hK23 hcp h

set_option maxHeartbeats 4000000 in
set_option maxRecDepth 20000 in
theorem wL_law_b457 (C : gC p room_1 s m #[Value.ref b] meth c cL_law RL 9 D g (fun q : Nat => s.heap.size ≤ q) 2048) (CX : gLX l s meth b L xs) {K23 : Nat → Nat → Nat → gM → Int32 → Option Unit} (hK23 : ∀ {ad ln : Nat → Nat} {cp k n : Nat} (_ : g_cap ln cp) {A : gM} {x4 : Int32}, K23 cp k n A x4 = some () → gJ p l e room_1 s m #[Value.ref b] below meth c (lw_Z below #[Value.ref b] s) 9 D g (fun q : Nat => s.heap.size ≤ q) 193 ad ln A [(0, .inr (.ref b)), (1, gr 0), (2, gr 183), (3, gr 192), (4, gi x4)] k n 23 []) {cp k n : Nat} (hcp : g_cap ln cp) {A : gM} {x4 : Int32} (h : mL_law_b457 xs L K23 cp k n A x4 = some ()) : gJ p l e room_1 s m #[Value.ref b] below meth c (lw_Z below #[Value.ref b] s) 9 D g (fun q : Nat => s.heap.size ≤ q) 193 ad ln A [(0, .inr (.ref b)), (1, gr 0), (2, gr 183), (3, gr 192), (4, gi x4)] k n 457 [] := by
  unfold mL_law_b457 at h
  refine g_goto C dL_law_457 (tgt := 1322) (by decide) ?_
  refine g_sub [0, 1, 2, 3, 4] rfl ?_
  exact wL_law_b1322 C CX hK23 hcp h

set_option maxHeartbeats 4000000 in
set_option maxRecDepth 20000 in
theorem wL_law_b377 (C : gC p room_1 s m #[Value.ref b] meth c cL_law RL 9 D g (fun q : Nat => s.heap.size ≤ q) 2048) (CX : gLX l s meth b L xs) {K23 : Nat → Nat → Nat → gM → Int32 → Option Unit} (hK23 : ∀ {ad ln : Nat → Nat} {cp k n : Nat} (_ : g_cap ln cp) {A : gM} {x4 : Int32}, K23 cp k n A x4 = some () → gJ p l e room_1 s m #[Value.ref b] below meth c (lw_Z below #[Value.ref b] s) 9 D g (fun q : Nat => s.heap.size ≤ q) 193 ad ln A [(0, .inr (.ref b)), (1, gr 0), (2, gr 183), (3, gr 192), (4, gi x4)] k n 23 []) {cp k n : Nat} (hcp : g_cap ln cp) {A : gM} {x4 : Int32} (h : mL_law_b377 xs L K23 cp k n A x4 = some ()) : gJ p l e room_1 s m #[Value.ref b] below meth c (lw_Z below #[Value.ref b] s) 9 D g (fun q : Nat => s.heap.size ≤ q) 193 ad ln A [(0, .inr (.ref b)), (1, gr 0), (2, gr 183), (3, gr 192), (4, gi x4)] k n 377 [] := by
  unfold mL_law_b377 at h
  refine g_goto C dL_law_377 (tgt := 1322) (by decide) ?_
  refine g_sub [0, 1, 2, 3, 4] rfl ?_
  exact wL_law_b1322 C CX hK23 hcp h

set_option maxHeartbeats 4000000 in
set_option maxRecDepth 20000 in
theorem wL_law_b309 (C : gC p room_1 s m #[Value.ref b] meth c cL_law RL 9 D g (fun q : Nat => s.heap.size ≤ q) 2048) (CX : gLX l s meth b L xs) {K23 : Nat → Nat → Nat → gM → Int32 → Option Unit} (hK23 : ∀ {ad ln : Nat → Nat} {cp k n : Nat} (_ : g_cap ln cp) {A : gM} {x4 : Int32}, K23 cp k n A x4 = some () → gJ p l e room_1 s m #[Value.ref b] below meth c (lw_Z below #[Value.ref b] s) 9 D g (fun q : Nat => s.heap.size ≤ q) 193 ad ln A [(0, .inr (.ref b)), (1, gr 0), (2, gr 183), (3, gr 192), (4, gi x4)] k n 23 []) {cp k n : Nat} (hcp : g_cap ln cp) {A : gM} {x4 : Int32} (h : mL_law_b309 xs L K23 cp k n A x4 = some ()) : gJ p l e room_1 s m #[Value.ref b] below meth c (lw_Z below #[Value.ref b] s) 9 D g (fun q : Nat => s.heap.size ≤ q) 193 ad ln A [(0, .inr (.ref b)), (1, gr 0), (2, gr 183), (3, gr 192), (4, gi x4)] k n 309 [] := by
  unfold mL_law_b309 at h
  refine g_goto C dL_law_309 (tgt := 1322) (by decide) ?_
  refine g_sub [0, 1, 2, 3, 4] rfl ?_
  exact wL_law_b1322 C CX hK23 hcp h

set_option maxHeartbeats 4000000 in
set_option maxRecDepth 20000 in
theorem wL_law_b241 (C : gC p room_1 s m #[Value.ref b] meth c cL_law RL 9 D g (fun q : Nat => s.heap.size ≤ q) 2048) (CX : gLX l s meth b L xs) {K23 : Nat → Nat → Nat → gM → Int32 → Option Unit} (hK23 : ∀ {ad ln : Nat → Nat} {cp k n : Nat} (_ : g_cap ln cp) {A : gM} {x4 : Int32}, K23 cp k n A x4 = some () → gJ p l e room_1 s m #[Value.ref b] below meth c (lw_Z below #[Value.ref b] s) 9 D g (fun q : Nat => s.heap.size ≤ q) 193 ad ln A [(0, .inr (.ref b)), (1, gr 0), (2, gr 183), (3, gr 192), (4, gi x4)] k n 23 []) {cp k n : Nat} (hcp : g_cap ln cp) {A : gM} {x4 : Int32} (h : mL_law_b241 xs L K23 cp k n A x4 = some ()) : gJ p l e room_1 s m #[Value.ref b] below meth c (lw_Z below #[Value.ref b] s) 9 D g (fun q : Nat => s.heap.size ≤ q) 193 ad ln A [(0, .inr (.ref b)), (1, gr 0), (2, gr 183), (3, gr 192), (4, gi x4)] k n 241 [] := by
  unfold mL_law_b241 at h
  refine g_goto C dL_law_241 (tgt := 1322) (by decide) ?_
  refine g_sub [0, 1, 2, 3, 4] rfl ?_
  exact wL_law_b1322 C CX hK23 hcp h

set_option maxHeartbeats 4000000 in
set_option maxRecDepth 20000 in
theorem wL_law_b185 (C : gC p room_1 s m #[Value.ref b] meth c cL_law RL 9 D g (fun q : Nat => s.heap.size ≤ q) 2048) (CX : gLX l s meth b L xs) {K23 : Nat → Nat → Nat → gM → Int32 → Option Unit} (hK23 : ∀ {ad ln : Nat → Nat} {cp k n : Nat} (_ : g_cap ln cp) {A : gM} {x4 : Int32}, K23 cp k n A x4 = some () → gJ p l e room_1 s m #[Value.ref b] below meth c (lw_Z below #[Value.ref b] s) 9 D g (fun q : Nat => s.heap.size ≤ q) 193 ad ln A [(0, .inr (.ref b)), (1, gr 0), (2, gr 183), (3, gr 192), (4, gi x4)] k n 23 []) {cp k n : Nat} (hcp : g_cap ln cp) {A : gM} {x4 : Int32} (h : mL_law_b185 xs L K23 cp k n A x4 = some ()) : gJ p l e room_1 s m #[Value.ref b] below meth c (lw_Z below #[Value.ref b] s) 9 D g (fun q : Nat => s.heap.size ≤ q) 193 ad ln A [(0, .inr (.ref b)), (1, gr 0), (2, gr 183), (3, gr 192), (4, gi x4)] k n 185 [] := by
  unfold mL_law_b185 at h
  refine g_goto C dL_law_185 (tgt := 1322) (by decide) ?_
  refine g_sub [0, 1, 2, 3, 4] rfl ?_
  exact wL_law_b1322 C CX hK23 hcp h

set_option maxHeartbeats 4000000 in
set_option maxRecDepth 20000 in
theorem wL_law_b23 (C : gC p room_1 s m #[Value.ref b] meth c cL_law RL 9 D g (fun q : Nat => s.heap.size ≤ q) 2048) (CX : gLX l s meth b L xs) {K23 : Nat → Nat → Nat → gM → Int32 → Option Unit} (hK23 : ∀ {ad ln : Nat → Nat} {cp k n : Nat} (_ : g_cap ln cp) {A : gM} {x4 : Int32}, K23 cp k n A x4 = some () → gJ p l e room_1 s m #[Value.ref b] below meth c (lw_Z below #[Value.ref b] s) 9 D g (fun q : Nat => s.heap.size ≤ q) 193 ad ln A [(0, .inr (.ref b)), (1, gr 0), (2, gr 183), (3, gr 192), (4, gi x4)] k n 23 []) {cp k n : Nat} (hcp : g_cap ln cp) {A : gM} {x4 : Int32} (h : mL_law_b23 xs L K23 cp k n A x4 = some ()) : gJ p l e room_1 s m #[Value.ref b] below meth c (lw_Z below #[Value.ref b] s) 9 D g (fun q : Nat => s.heap.size ≤ q) 193 ad ln A [(0, .inr (.ref b)), (1, gr 0), (2, gr 183), (3, gr 192), (4, gi x4)] k n 23 [] := by
  unfold mL_law_b23 at h
  refine g_iload C 4 dL_law_23 rfl ?_
  refine g_aloadX_n C 0 dL_law_25 rfl ?_
  refine g_slen C CX dL_law_26 ?_
  refine g_iconst (v := 4) C dL_law_27 (by decide) ?_
  refine g_isub C dL_law_28 ?_
  refine g_icmp_gt C dL_law_29 (tgt := 1328) (by decide) (fun c1 => ?_) (fun c1 => ?_)
  · have h := g_tt c1 h
    refine g_iconst (v := 1) C dL_law_1328 (by decide) ?_
    obtain ⟨hg, h⟩ := g_gd h
    exact g_retLaw C CX hg dL_law_1329
  · have h := g_ff c1 h
    refine g_aloadX_n C 0 dL_law_32 rfl ?_
    refine g_iload C 4 dL_law_33 rfl ?_
    obtain ⟨hg2, h⟩ := g_gd h
    refine g_sld C CX hg2 dL_law_35 ?_
    refine g_bipush (v := 31) C dL_law_36 (by decide) ?_
    refine g_iand C dL_law_38 ?_
    by_cases c3 : ((xs x4.toNatClampNeg) &&& 31) = 0
    · have h := g_tt c3 h
      refine g_tableIn C dL_law_39 (tgt := 132) (by rw [c3]; decide) (by rw [c3]; decide) (by rw [c3]; rfl) (by decide) ?_
      refine g_aload_n C 1 dL_law_132 rfl ?_
      refine g_aloadX_n C 0 dL_law_133 rfl ?_
      refine g_iload C 4 dL_law_134 rfl ?_
      refine g_iconst (v := 1) C dL_law_136 (by decide) ?_
      refine g_iadd C dL_law_137 ?_
      obtain ⟨hg4, h⟩ := g_gd h
      refine g_sld C CX hg4 dL_law_138 ?_
      refine g_aload_n C 3 dL_law_139 rfl ?_
      obtain ⟨q5, eq5, h⟩ := g_bd h
      obtain ⟨hg6, h⟩ := g_gd h
      refine g_callL C CX [gr 0, gi (xs (x4 + 1).toNatClampNeg), gr 192] (kL_plain (by omega) CX.1 eq5) qsL_75 (by omega) rfl rfl (Nat.le_of_ble_eq_true rfl) hg6 dL_law_140 ?_
      refine g_istore C dL_law_143 (by decide) rfl ?_
      refine g_aload_n C 3 dL_law_145 rfl ?_
      refine g_aloadX_n C 1 dL_law_146 rfl ?_
      refine g_iload C 5 dL_law_147 rfl ?_
      refine g_iconst (v := 1) C dL_law_149 (by decide) ?_
      refine g_iadd C dL_law_150 ?_
      obtain ⟨hg7, h⟩ := g_gd h
      refine g_sld C CX hg7 dL_law_151 ?_
      obtain ⟨q8, eq8, h⟩ := g_bd h
      obtain ⟨hg9, h⟩ := g_gd h
      refine g_callAiV C 183 [gi (xs (x4 + 1).toNatClampNeg)] (kX6_plain (by omega) hcp eq8) qs_L_80 (by omega) (by omega) rfl rfl rfl rfl (Nat.le_of_ble_eq_true rfl) hg9 (And.intro ⟨by omega, by omega⟩ (And.intro ⟨by omega, by omega⟩ (And.intro ⟨by omega, by omega⟩ True.intro))) True.intro dL_law_152 (fun ad ln hch => ?_)
      have hcp := hch.2
      refine g_istore C dL_law_155 (by decide) rfl ?_
      refine g_aload_n C 4 dL_law_157 rfl ?_
      obtain ⟨q10, eq10, h⟩ := g_bd h
      obtain ⟨hg11, h⟩ := g_gd h
      refine g_calliV C 183 [] (kX6_thrown (by omega) hcp eq10) qs_L_81 (by omega) (by omega) rfl rfl rfl rfl (Nat.le_of_ble_eq_true rfl) hg11 dL_law_158 ?_
      refine g_iload C 1 dL_law_161 rfl ?_
      refine g_icmp_eq C dL_law_163 (tgt := 168) (by decide) (fun c12 => ?_) (fun c12 => ?_)
      · have h := g_tt c12 h
        refine g_iload C 1 dL_law_168 rfl ?_
        refine g_if_ne C dL_law_170 (tgt := 185) (by decide) (fun c13 => ?_) (fun c13 => ?_)
        · have h := g_ff c13 h
          refine g_sub [2, 3, 4, 5, 6] rfl ?_
          exact wL_law_b185 C CX hK23 hcp h
        · have h := g_tt c13 h
          refine g_aload_n C 5 dL_law_173 rfl ?_
          refine g_iconst (v := 0) C dL_law_174 (by decide) ?_
          obtain ⟨hg14, h⟩ := g_gd h
          refine g_lald C (by omega) hg14 dL_law_175 ?_
          refine g_iload C 0 dL_law_176 rfl ?_
          refine g_i2l C dL_law_178 ?_
          refine g_lcmp C dL_law_179 ?_
          refine g_if_eq C dL_law_180 (tgt := 185) (by decide) (fun c15 => ?_) (fun c15 => ?_)
          · have h := g_tt c15 h
            refine g_sub [2, 3, 4, 5, 6] rfl ?_
            exact wL_law_b185 C CX hK23 hcp h
          · have h := g_ff c15 h
            refine g_iconst (v := 0) C dL_law_183 (by decide) ?_
            cases h
      · have h := g_ff c12 h
        refine g_iconst (v := 0) C dL_law_166 (by decide) ?_
        cases h
    have h := g_ff c3 h
    by_cases c16 : ((xs x4.toNatClampNeg) &&& 31) = 1
    · have h := g_tt c16 h
      refine g_tableIn C dL_law_39 (tgt := 188) (by rw [c16]; decide) (by rw [c16]; decide) (by rw [c16]; rfl) (by decide) ?_
      refine g_aload_n C 1 dL_law_188 rfl ?_
      refine g_aloadX_n C 0 dL_law_189 rfl ?_
      refine g_iload C 4 dL_law_190 rfl ?_
      refine g_iconst (v := 1) C dL_law_192 (by decide) ?_
      refine g_iadd C dL_law_193 ?_
      obtain ⟨hg17, h⟩ := g_gd h
      refine g_sld C CX hg17 dL_law_194 ?_
      refine g_aload_n C 3 dL_law_195 rfl ?_
      obtain ⟨q18, eq18, h⟩ := g_bd h
      obtain ⟨hg19, h⟩ := g_gd h
      refine g_callL C CX [gr 0, gi (xs (x4 + 1).toNatClampNeg), gr 192] (kL_name (by omega) CX.1 eq18) qsL_84 (by omega) rfl rfl (Nat.le_of_ble_eq_true rfl) hg19 dL_law_196 ?_
      refine g_istore C dL_law_199 (by decide) rfl ?_
      refine g_aload_n C 3 dL_law_201 rfl ?_
      refine g_aloadX_n C 1 dL_law_202 rfl ?_
      refine g_iload C 5 dL_law_203 rfl ?_
      refine g_iconst (v := 1) C dL_law_205 (by decide) ?_
      refine g_iadd C dL_law_206 ?_
      obtain ⟨hg20, h⟩ := g_gd h
      refine g_sld C CX hg20 dL_law_207 ?_
      obtain ⟨q21, eq21, h⟩ := g_bd h
      obtain ⟨hg22, h⟩ := g_gd h
      refine g_callAiV C 183 [gi (xs (x4 + 1).toNatClampNeg)] (kX6_name (by omega) hcp eq21) qs_L_86 (by omega) (by omega) rfl rfl rfl rfl (Nat.le_of_ble_eq_true rfl) hg22 (And.intro ⟨by omega, by omega⟩ (And.intro ⟨by omega, by omega⟩ (And.intro ⟨by omega, by omega⟩ True.intro))) True.intro dL_law_208 (fun ad ln hch => ?_)
      have hcp := hch.2
      refine g_istore C dL_law_211 (by decide) rfl ?_
      refine g_aload_n C 4 dL_law_213 rfl ?_
      obtain ⟨q23, eq23, h⟩ := g_bd h
      obtain ⟨hg24, h⟩ := g_gd h
      refine g_calliV C 183 [] (kX6_thrown (by omega) hcp eq23) qs_L_81 (by omega) (by omega) rfl rfl rfl rfl (Nat.le_of_ble_eq_true rfl) hg24 dL_law_214 ?_
      refine g_iload C 1 dL_law_217 rfl ?_
      refine g_icmp_eq C dL_law_219 (tgt := 224) (by decide) (fun c25 => ?_) (fun c25 => ?_)
      · have h := g_tt c25 h
        refine g_iload C 1 dL_law_224 rfl ?_
        refine g_if_ne C dL_law_226 (tgt := 241) (by decide) (fun c26 => ?_) (fun c26 => ?_)
        · have h := g_ff c26 h
          refine g_sub [2, 3, 4, 5, 6] rfl ?_
          exact wL_law_b241 C CX hK23 hcp h
        · have h := g_tt c26 h
          refine g_aload_n C 5 dL_law_229 rfl ?_
          refine g_iconst (v := 0) C dL_law_230 (by decide) ?_
          obtain ⟨hg27, h⟩ := g_gd h
          refine g_lald C (by omega) hg27 dL_law_231 ?_
          refine g_iload C 0 dL_law_232 rfl ?_
          refine g_i2l C dL_law_234 ?_
          refine g_lcmp C dL_law_235 ?_
          refine g_if_eq C dL_law_236 (tgt := 241) (by decide) (fun c28 => ?_) (fun c28 => ?_)
          · have h := g_tt c28 h
            refine g_sub [2, 3, 4, 5, 6] rfl ?_
            exact wL_law_b241 C CX hK23 hcp h
          · have h := g_ff c28 h
            refine g_iconst (v := 0) C dL_law_239 (by decide) ?_
            cases h
      · have h := g_ff c25 h
        refine g_iconst (v := 0) C dL_law_222 (by decide) ?_
        cases h
    have h := g_ff c16 h
    by_cases c29 : ((xs x4.toNatClampNeg) &&& 31) = 2
    · have h := g_tt c29 h
      refine g_tableIn C dL_law_39 (tgt := 244) (by rw [c29]; decide) (by rw [c29]; decide) (by rw [c29]; rfl) (by decide) ?_
      refine g_aload_n C 1 dL_law_244 rfl ?_
      refine g_aloadX_n C 0 dL_law_245 rfl ?_
      refine g_iload C 4 dL_law_246 rfl ?_
      refine g_iconst (v := 1) C dL_law_248 (by decide) ?_
      refine g_iadd C dL_law_249 ?_
      obtain ⟨hg30, h⟩ := g_gd h
      refine g_sld C CX hg30 dL_law_250 ?_
      refine g_aloadX_n C 0 dL_law_251 rfl ?_
      refine g_iload C 4 dL_law_252 rfl ?_
      refine g_iconst (v := 2) C dL_law_254 (by decide) ?_
      refine g_iadd C dL_law_255 ?_
      obtain ⟨hg31, h⟩ := g_gd h
      refine g_sld C CX hg31 dL_law_256 ?_
      refine g_aload_n C 3 dL_law_257 rfl ?_
      obtain ⟨q32, eq32, h⟩ := g_bd h
      obtain ⟨hg33, h⟩ := g_gd h
      refine g_callL C CX [gr 0, gi (xs (x4 + 1).toNatClampNeg), gi (xs (x4 + 2).toNatClampNeg), gr 192] (kL_wheel (by omega) CX.1 eq32) qsL_87 (by omega) rfl rfl (Nat.le_of_ble_eq_true rfl) hg33 dL_law_258 ?_
      refine g_istore C dL_law_261 (by decide) rfl ?_
      refine g_aload_n C 3 dL_law_263 rfl ?_
      refine g_aloadX_n C 1 dL_law_264 rfl ?_
      refine g_iload C 5 dL_law_265 rfl ?_
      refine g_iconst (v := 1) C dL_law_267 (by decide) ?_
      refine g_iadd C dL_law_268 ?_
      obtain ⟨hg34, h⟩ := g_gd h
      refine g_sld C CX hg34 dL_law_269 ?_
      refine g_aloadX_n C 1 dL_law_270 rfl ?_
      refine g_iload C 5 dL_law_271 rfl ?_
      refine g_iconst (v := 2) C dL_law_273 (by decide) ?_
      refine g_iadd C dL_law_274 ?_
      obtain ⟨hg35, h⟩ := g_gd h
      refine g_sld C CX hg35 dL_law_275 ?_
      obtain ⟨q36, eq36, h⟩ := g_bd h
      obtain ⟨hg37, h⟩ := g_gd h
      refine g_callAiV C 183 [gi (xs (x4 + 1).toNatClampNeg), gi (xs (x4 + 2).toNatClampNeg)] (kX6_wheel (by omega) hcp eq36) qs_L_90 (by omega) (by omega) rfl rfl rfl rfl (Nat.le_of_ble_eq_true rfl) hg37 (And.intro ⟨by omega, by omega⟩ (And.intro ⟨by omega, by omega⟩ (And.intro ⟨by omega, by omega⟩ True.intro))) True.intro dL_law_276 (fun ad ln hch => ?_)
      have hcp := hch.2
      refine g_istore C dL_law_279 (by decide) rfl ?_
      refine g_aload_n C 4 dL_law_281 rfl ?_
      obtain ⟨q38, eq38, h⟩ := g_bd h
      obtain ⟨hg39, h⟩ := g_gd h
      refine g_calliV C 183 [] (kX6_thrown (by omega) hcp eq38) qs_L_81 (by omega) (by omega) rfl rfl rfl rfl (Nat.le_of_ble_eq_true rfl) hg39 dL_law_282 ?_
      refine g_iload C 1 dL_law_285 rfl ?_
      refine g_icmp_eq C dL_law_287 (tgt := 292) (by decide) (fun c40 => ?_) (fun c40 => ?_)
      · have h := g_tt c40 h
        refine g_iload C 1 dL_law_292 rfl ?_
        refine g_if_ne C dL_law_294 (tgt := 309) (by decide) (fun c41 => ?_) (fun c41 => ?_)
        · have h := g_ff c41 h
          refine g_sub [2, 3, 4, 5, 6] rfl ?_
          exact wL_law_b309 C CX hK23 hcp h
        · have h := g_tt c41 h
          refine g_aload_n C 5 dL_law_297 rfl ?_
          refine g_iconst (v := 0) C dL_law_298 (by decide) ?_
          obtain ⟨hg42, h⟩ := g_gd h
          refine g_lald C (by omega) hg42 dL_law_299 ?_
          refine g_iload C 0 dL_law_300 rfl ?_
          refine g_i2l C dL_law_302 ?_
          refine g_lcmp C dL_law_303 ?_
          refine g_if_eq C dL_law_304 (tgt := 309) (by decide) (fun c43 => ?_) (fun c43 => ?_)
          · have h := g_tt c43 h
            refine g_sub [2, 3, 4, 5, 6] rfl ?_
            exact wL_law_b309 C CX hK23 hcp h
          · have h := g_ff c43 h
            refine g_iconst (v := 0) C dL_law_307 (by decide) ?_
            cases h
      · have h := g_ff c40 h
        refine g_iconst (v := 0) C dL_law_290 (by decide) ?_
        cases h
    have h := g_ff c29 h
    by_cases c44 : ((xs x4.toNatClampNeg) &&& 31) = 3
    · have h := g_tt c44 h
      refine g_tableIn C dL_law_39 (tgt := 312) (by rw [c44]; decide) (by rw [c44]; decide) (by rw [c44]; rfl) (by decide) ?_
      refine g_aload_n C 1 dL_law_312 rfl ?_
      refine g_aloadX_n C 0 dL_law_313 rfl ?_
      refine g_iload C 4 dL_law_314 rfl ?_
      refine g_iconst (v := 1) C dL_law_316 (by decide) ?_
      refine g_iadd C dL_law_317 ?_
      obtain ⟨hg45, h⟩ := g_gd h
      refine g_sld C CX hg45 dL_law_318 ?_
      refine g_aloadX_n C 0 dL_law_319 rfl ?_
      refine g_iload C 4 dL_law_320 rfl ?_
      refine g_iconst (v := 2) C dL_law_322 (by decide) ?_
      refine g_iadd C dL_law_323 ?_
      obtain ⟨hg46, h⟩ := g_gd h
      refine g_sld C CX hg46 dL_law_324 ?_
      refine g_aload_n C 3 dL_law_325 rfl ?_
      obtain ⟨q47, eq47, h⟩ := g_bd h
      obtain ⟨hg48, h⟩ := g_gd h
      refine g_callL C CX [gr 0, gi (xs (x4 + 1).toNatClampNeg), gi (xs (x4 + 2).toNatClampNeg), gr 192] (kL_turn (by omega) CX.1 eq47) qsL_91 (by omega) rfl rfl (Nat.le_of_ble_eq_true rfl) hg48 dL_law_326 ?_
      refine g_istore C dL_law_329 (by decide) rfl ?_
      refine g_aload_n C 3 dL_law_331 rfl ?_
      refine g_aloadX_n C 1 dL_law_332 rfl ?_
      refine g_iload C 5 dL_law_333 rfl ?_
      refine g_iconst (v := 1) C dL_law_335 (by decide) ?_
      refine g_iadd C dL_law_336 ?_
      obtain ⟨hg49, h⟩ := g_gd h
      refine g_sld C CX hg49 dL_law_337 ?_
      refine g_aloadX_n C 1 dL_law_338 rfl ?_
      refine g_iload C 5 dL_law_339 rfl ?_
      refine g_iconst (v := 2) C dL_law_341 (by decide) ?_
      refine g_iadd C dL_law_342 ?_
      obtain ⟨hg50, h⟩ := g_gd h
      refine g_sld C CX hg50 dL_law_343 ?_
      obtain ⟨q51, eq51, h⟩ := g_bd h
      obtain ⟨hg52, h⟩ := g_gd h
      refine g_callAiV C 183 [gi (xs (x4 + 1).toNatClampNeg), gi (xs (x4 + 2).toNatClampNeg)] (kX6_turn (by omega) hcp eq51) qs_L_93 (by omega) (by omega) rfl rfl rfl rfl (Nat.le_of_ble_eq_true rfl) hg52 (And.intro ⟨by omega, by omega⟩ (And.intro ⟨by omega, by omega⟩ (And.intro ⟨by omega, by omega⟩ True.intro))) True.intro dL_law_344 (fun ad ln hch => ?_)
      have hcp := hch.2
      refine g_istore C dL_law_347 (by decide) rfl ?_
      refine g_aload_n C 4 dL_law_349 rfl ?_
      obtain ⟨q53, eq53, h⟩ := g_bd h
      obtain ⟨hg54, h⟩ := g_gd h
      refine g_calliV C 183 [] (kX6_thrown (by omega) hcp eq53) qs_L_81 (by omega) (by omega) rfl rfl rfl rfl (Nat.le_of_ble_eq_true rfl) hg54 dL_law_350 ?_
      refine g_iload C 1 dL_law_353 rfl ?_
      refine g_icmp_eq C dL_law_355 (tgt := 360) (by decide) (fun c55 => ?_) (fun c55 => ?_)
      · have h := g_tt c55 h
        refine g_iload C 1 dL_law_360 rfl ?_
        refine g_if_ne C dL_law_362 (tgt := 377) (by decide) (fun c56 => ?_) (fun c56 => ?_)
        · have h := g_ff c56 h
          refine g_sub [2, 3, 4, 5, 6] rfl ?_
          exact wL_law_b377 C CX hK23 hcp h
        · have h := g_tt c56 h
          refine g_aload_n C 5 dL_law_365 rfl ?_
          refine g_iconst (v := 0) C dL_law_366 (by decide) ?_
          obtain ⟨hg57, h⟩ := g_gd h
          refine g_lald C (by omega) hg57 dL_law_367 ?_
          refine g_iload C 0 dL_law_368 rfl ?_
          refine g_i2l C dL_law_370 ?_
          refine g_lcmp C dL_law_371 ?_
          refine g_if_eq C dL_law_372 (tgt := 377) (by decide) (fun c58 => ?_) (fun c58 => ?_)
          · have h := g_tt c58 h
            refine g_sub [2, 3, 4, 5, 6] rfl ?_
            exact wL_law_b377 C CX hK23 hcp h
          · have h := g_ff c58 h
            refine g_iconst (v := 0) C dL_law_375 (by decide) ?_
            cases h
      · have h := g_ff c55 h
        refine g_iconst (v := 0) C dL_law_358 (by decide) ?_
        cases h
    have h := g_ff c44 h
    by_cases c59 : ((xs x4.toNatClampNeg) &&& 31) = 4
    · have h := g_tt c59 h
      refine g_tableIn C dL_law_39 (tgt := 380) (by rw [c59]; decide) (by rw [c59]; decide) (by rw [c59]; rfl) (by decide) ?_
      refine g_aload_n C 1 dL_law_380 rfl ?_
      refine g_aloadX_n C 0 dL_law_381 rfl ?_
      refine g_iload C 4 dL_law_382 rfl ?_
      refine g_iconst (v := 1) C dL_law_384 (by decide) ?_
      refine g_iadd C dL_law_385 ?_
      obtain ⟨hg60, h⟩ := g_gd h
      refine g_sld C CX hg60 dL_law_386 ?_
      refine g_aloadX_n C 0 dL_law_387 rfl ?_
      refine g_iload C 4 dL_law_388 rfl ?_
      refine g_iconst (v := 2) C dL_law_390 (by decide) ?_
      refine g_iadd C dL_law_391 ?_
      obtain ⟨hg61, h⟩ := g_gd h
      refine g_sld C CX hg61 dL_law_392 ?_
      refine g_aloadX_n C 0 dL_law_393 rfl ?_
      refine g_iload C 4 dL_law_394 rfl ?_
      refine g_iconst (v := 3) C dL_law_396 (by decide) ?_
      refine g_iadd C dL_law_397 ?_
      obtain ⟨hg62, h⟩ := g_gd h
      refine g_sld C CX hg62 dL_law_398 ?_
      refine g_aload_n C 3 dL_law_399 rfl ?_
      obtain ⟨q63, eq63, h⟩ := g_bd h
      obtain ⟨hg64, h⟩ := g_gd h
      refine g_callL C CX [gr 0, gi (xs (x4 + 1).toNatClampNeg), gi (xs (x4 + 2).toNatClampNeg), gi (xs (x4 + 3).toNatClampNeg), gr 192] (kL_tell (by omega) CX.1 eq63) qsL_94 (by omega) rfl rfl (Nat.le_of_ble_eq_true rfl) hg64 dL_law_400 ?_
      refine g_istore C dL_law_403 (by decide) rfl ?_
      refine g_aload_n C 3 dL_law_405 rfl ?_
      refine g_aloadX_n C 1 dL_law_406 rfl ?_
      refine g_iload C 5 dL_law_407 rfl ?_
      refine g_iconst (v := 1) C dL_law_409 (by decide) ?_
      refine g_iadd C dL_law_410 ?_
      obtain ⟨hg65, h⟩ := g_gd h
      refine g_sld C CX hg65 dL_law_411 ?_
      refine g_aloadX_n C 1 dL_law_412 rfl ?_
      refine g_iload C 5 dL_law_413 rfl ?_
      refine g_iconst (v := 2) C dL_law_415 (by decide) ?_
      refine g_iadd C dL_law_416 ?_
      obtain ⟨hg66, h⟩ := g_gd h
      refine g_sld C CX hg66 dL_law_417 ?_
      refine g_aloadX_n C 1 dL_law_418 rfl ?_
      refine g_iload C 5 dL_law_419 rfl ?_
      refine g_iconst (v := 3) C dL_law_421 (by decide) ?_
      refine g_iadd C dL_law_422 ?_
      obtain ⟨hg67, h⟩ := g_gd h
      refine g_sld C CX hg67 dL_law_423 ?_
      obtain ⟨q68, eq68, h⟩ := g_bd h
      obtain ⟨hg69, h⟩ := g_gd h
      refine g_callAiV C 183 [gi (xs (x4 + 1).toNatClampNeg), gi (xs (x4 + 2).toNatClampNeg), gi (xs (x4 + 3).toNatClampNeg)] (kX6_tell (by omega) hcp eq68) qs_L_97 (by omega) (by omega) rfl rfl rfl rfl (Nat.le_of_ble_eq_true rfl) hg69 (And.intro ⟨by omega, by omega⟩ (And.intro ⟨by omega, by omega⟩ (And.intro ⟨by omega, by omega⟩ True.intro))) True.intro dL_law_424 (fun ad ln hch => ?_)
      have hcp := hch.2
      refine g_istore C dL_law_427 (by decide) rfl ?_
      refine g_aload_n C 4 dL_law_429 rfl ?_
      obtain ⟨q70, eq70, h⟩ := g_bd h
      obtain ⟨hg71, h⟩ := g_gd h
      refine g_calliV C 183 [] (kX6_thrown (by omega) hcp eq70) qs_L_81 (by omega) (by omega) rfl rfl rfl rfl (Nat.le_of_ble_eq_true rfl) hg71 dL_law_430 ?_
      refine g_iload C 1 dL_law_433 rfl ?_
      refine g_icmp_eq C dL_law_435 (tgt := 440) (by decide) (fun c72 => ?_) (fun c72 => ?_)
      · have h := g_tt c72 h
        refine g_iload C 1 dL_law_440 rfl ?_
        refine g_if_ne C dL_law_442 (tgt := 457) (by decide) (fun c73 => ?_) (fun c73 => ?_)
        · have h := g_ff c73 h
          refine g_sub [2, 3, 4, 5, 6] rfl ?_
          exact wL_law_b457 C CX hK23 hcp h
        · have h := g_tt c73 h
          refine g_aload_n C 5 dL_law_445 rfl ?_
          refine g_iconst (v := 0) C dL_law_446 (by decide) ?_
          obtain ⟨hg74, h⟩ := g_gd h
          refine g_lald C (by omega) hg74 dL_law_447 ?_
          refine g_iload C 0 dL_law_448 rfl ?_
          refine g_i2l C dL_law_450 ?_
          refine g_lcmp C dL_law_451 ?_
          refine g_if_eq C dL_law_452 (tgt := 457) (by decide) (fun c75 => ?_) (fun c75 => ?_)
          · have h := g_tt c75 h
            refine g_sub [2, 3, 4, 5, 6] rfl ?_
            exact wL_law_b457 C CX hK23 hcp h
          · have h := g_ff c75 h
            refine g_iconst (v := 0) C dL_law_455 (by decide) ?_
            cases h
      · have h := g_ff c72 h
        refine g_iconst (v := 0) C dL_law_438 (by decide) ?_
        cases h
    have h := g_ff c59 h
    by_cases c76 : ((xs x4.toNatClampNeg) &&& 31) = 5
    · have h := g_tt c76 h
      refine g_tableIn C dL_law_39 (tgt := 460) (by rw [c76]; decide) (by rw [c76]; decide) (by rw [c76]; rfl) (by decide) ?_
      refine g_aload_n C 1 dL_law_460 rfl ?_
      refine g_aloadX_n C 0 dL_law_461 rfl ?_
      refine g_iload C 4 dL_law_462 rfl ?_
      refine g_iconst (v := 1) C dL_law_464 (by decide) ?_
      refine g_iadd C dL_law_465 ?_
      obtain ⟨hg77, h⟩ := g_gd h
      refine g_sld C CX hg77 dL_law_466 ?_
      refine g_aloadX_n C 0 dL_law_467 rfl ?_
      refine g_iload C 4 dL_law_468 rfl ?_
      refine g_iconst (v := 2) C dL_law_470 (by decide) ?_
      refine g_iadd C dL_law_471 ?_
      obtain ⟨hg78, h⟩ := g_gd h
      refine g_sld C CX hg78 dL_law_472 ?_
      refine g_aload_n C 3 dL_law_473 rfl ?_
      obtain ⟨q79, eq79, h⟩ := g_bd h
      obtain ⟨hg80, h⟩ := g_gd h
      refine g_callL C CX [gr 0, gi (xs (x4 + 1).toNatClampNeg), gi (xs (x4 + 2).toNatClampNeg), gr 192] (kL_axle (by omega) CX.1 eq79) qsL_98 (by omega) rfl rfl (Nat.le_of_ble_eq_true rfl) hg80 dL_law_474 ?_
      refine g_istore C dL_law_477 (by decide) rfl ?_
      refine g_aload_n C 3 dL_law_479 rfl ?_
      refine g_aloadX_n C 1 dL_law_480 rfl ?_
      refine g_iload C 5 dL_law_481 rfl ?_
      refine g_iconst (v := 1) C dL_law_483 (by decide) ?_
      refine g_iadd C dL_law_484 ?_
      obtain ⟨hg81, h⟩ := g_gd h
      refine g_sld C CX hg81 dL_law_485 ?_
      refine g_aloadX_n C 1 dL_law_486 rfl ?_
      refine g_iload C 5 dL_law_487 rfl ?_
      refine g_iconst (v := 2) C dL_law_489 (by decide) ?_
      refine g_iadd C dL_law_490 ?_
      obtain ⟨hg82, h⟩ := g_gd h
      refine g_sld C CX hg82 dL_law_491 ?_
      obtain ⟨q83, eq83, h⟩ := g_bd h
      obtain ⟨hg84, h⟩ := g_gd h
      refine g_callAiV C 183 [gi (xs (x4 + 1).toNatClampNeg), gi (xs (x4 + 2).toNatClampNeg)] (kX6_axle (by omega) hcp eq83) qs_L_100 (by omega) (by omega) rfl rfl rfl rfl (Nat.le_of_ble_eq_true rfl) hg84 (And.intro ⟨by omega, by omega⟩ (And.intro ⟨by omega, by omega⟩ (And.intro ⟨by omega, by omega⟩ True.intro))) True.intro dL_law_492 (fun ad ln hch => ?_)
      have hcp := hch.2
      refine g_istore C dL_law_495 (by decide) rfl ?_
      refine g_aload_n C 4 dL_law_497 rfl ?_
      obtain ⟨q85, eq85, h⟩ := g_bd h
      obtain ⟨hg86, h⟩ := g_gd h
      refine g_calliV C 183 [] (kX6_thrown (by omega) hcp eq85) qs_L_81 (by omega) (by omega) rfl rfl rfl rfl (Nat.le_of_ble_eq_true rfl) hg86 dL_law_498 ?_
      refine g_iload C 1 dL_law_501 rfl ?_
      refine g_icmp_eq C dL_law_503 (tgt := 508) (by decide) (fun c87 => ?_) (fun c87 => ?_)
      · have h := g_tt c87 h
        refine g_iload C 1 dL_law_508 rfl ?_
        refine g_if_ne C dL_law_510 (tgt := 525) (by decide) (fun c88 => ?_) (fun c88 => ?_)
        · have h := g_ff c88 h
          refine g_sub [2, 3, 4, 5, 6] rfl ?_
          exact wL_law_b525 C CX hK23 hcp h
        · have h := g_tt c88 h
          refine g_aload_n C 5 dL_law_513 rfl ?_
          refine g_iconst (v := 0) C dL_law_514 (by decide) ?_
          obtain ⟨hg89, h⟩ := g_gd h
          refine g_lald C (by omega) hg89 dL_law_515 ?_
          refine g_iload C 0 dL_law_516 rfl ?_
          refine g_i2l C dL_law_518 ?_
          refine g_lcmp C dL_law_519 ?_
          refine g_if_eq C dL_law_520 (tgt := 525) (by decide) (fun c90 => ?_) (fun c90 => ?_)
          · have h := g_tt c90 h
            refine g_sub [2, 3, 4, 5, 6] rfl ?_
            exact wL_law_b525 C CX hK23 hcp h
          · have h := g_ff c90 h
            refine g_iconst (v := 0) C dL_law_523 (by decide) ?_
            cases h
      · have h := g_ff c87 h
        refine g_iconst (v := 0) C dL_law_506 (by decide) ?_
        cases h
    have h := g_ff c76 h
    by_cases c91 : ((xs x4.toNatClampNeg) &&& 31) = 6
    · have h := g_tt c91 h
      refine g_tableIn C dL_law_39 (tgt := 528) (by rw [c91]; decide) (by rw [c91]; decide) (by rw [c91]; rfl) (by decide) ?_
      refine g_aload_n C 1 dL_law_528 rfl ?_
      refine g_aloadX_n C 0 dL_law_529 rfl ?_
      refine g_iload C 4 dL_law_530 rfl ?_
      refine g_iconst (v := 1) C dL_law_532 (by decide) ?_
      refine g_iadd C dL_law_533 ?_
      obtain ⟨hg92, h⟩ := g_gd h
      refine g_sld C CX hg92 dL_law_534 ?_
      refine g_aloadX_n C 0 dL_law_535 rfl ?_
      refine g_iload C 4 dL_law_536 rfl ?_
      refine g_iconst (v := 2) C dL_law_538 (by decide) ?_
      refine g_iadd C dL_law_539 ?_
      obtain ⟨hg93, h⟩ := g_gd h
      refine g_sld C CX hg93 dL_law_540 ?_
      refine g_aload_n C 3 dL_law_541 rfl ?_
      obtain ⟨q94, eq94, h⟩ := g_bd h
      obtain ⟨hg95, h⟩ := g_gd h
      refine g_callL C CX [gr 0, gi (xs (x4 + 1).toNatClampNeg), gi (xs (x4 + 2).toNatClampNeg), gr 192] (kL_end (by omega) CX.1 eq94) qsL_101 (by omega) rfl rfl (Nat.le_of_ble_eq_true rfl) hg95 dL_law_542 ?_
      refine g_istore C dL_law_545 (by decide) rfl ?_
      refine g_aload_n C 3 dL_law_547 rfl ?_
      refine g_aloadX_n C 1 dL_law_548 rfl ?_
      refine g_iload C 5 dL_law_549 rfl ?_
      refine g_iconst (v := 1) C dL_law_551 (by decide) ?_
      refine g_iadd C dL_law_552 ?_
      obtain ⟨hg96, h⟩ := g_gd h
      refine g_sld C CX hg96 dL_law_553 ?_
      refine g_aloadX_n C 1 dL_law_554 rfl ?_
      refine g_iload C 5 dL_law_555 rfl ?_
      refine g_iconst (v := 2) C dL_law_557 (by decide) ?_
      refine g_iadd C dL_law_558 ?_
      obtain ⟨hg97, h⟩ := g_gd h
      refine g_sld C CX hg97 dL_law_559 ?_
      obtain ⟨q98, eq98, h⟩ := g_bd h
      obtain ⟨hg99, h⟩ := g_gd h
      refine g_callAiV C 183 [gi (xs (x4 + 1).toNatClampNeg), gi (xs (x4 + 2).toNatClampNeg)] (kX6_end (by omega) hcp eq98) qs_L_103 (by omega) (by omega) rfl rfl rfl rfl (Nat.le_of_ble_eq_true rfl) hg99 (And.intro ⟨by omega, by omega⟩ (And.intro ⟨by omega, by omega⟩ (And.intro ⟨by omega, by omega⟩ True.intro))) True.intro dL_law_560 (fun ad ln hch => ?_)
      have hcp := hch.2
      refine g_istore C dL_law_563 (by decide) rfl ?_
      refine g_aload_n C 4 dL_law_565 rfl ?_
      obtain ⟨q100, eq100, h⟩ := g_bd h
      obtain ⟨hg101, h⟩ := g_gd h
      refine g_calliV C 183 [] (kX6_thrown (by omega) hcp eq100) qs_L_81 (by omega) (by omega) rfl rfl rfl rfl (Nat.le_of_ble_eq_true rfl) hg101 dL_law_566 ?_
      refine g_iload C 1 dL_law_569 rfl ?_
      refine g_icmp_eq C dL_law_571 (tgt := 576) (by decide) (fun c102 => ?_) (fun c102 => ?_)
      · have h := g_tt c102 h
        refine g_iload C 1 dL_law_576 rfl ?_
        refine g_if_ne C dL_law_578 (tgt := 593) (by decide) (fun c103 => ?_) (fun c103 => ?_)
        · have h := g_ff c103 h
          refine g_sub [2, 3, 4, 5, 6] rfl ?_
          exact wL_law_b593 C CX hK23 hcp h
        · have h := g_tt c103 h
          refine g_aload_n C 5 dL_law_581 rfl ?_
          refine g_iconst (v := 0) C dL_law_582 (by decide) ?_
          obtain ⟨hg104, h⟩ := g_gd h
          refine g_lald C (by omega) hg104 dL_law_583 ?_
          refine g_iload C 0 dL_law_584 rfl ?_
          refine g_i2l C dL_law_586 ?_
          refine g_lcmp C dL_law_587 ?_
          refine g_if_eq C dL_law_588 (tgt := 593) (by decide) (fun c105 => ?_) (fun c105 => ?_)
          · have h := g_tt c105 h
            refine g_sub [2, 3, 4, 5, 6] rfl ?_
            exact wL_law_b593 C CX hK23 hcp h
          · have h := g_ff c105 h
            refine g_iconst (v := 0) C dL_law_591 (by decide) ?_
            cases h
      · have h := g_ff c102 h
        refine g_iconst (v := 0) C dL_law_574 (by decide) ?_
        cases h
    have h := g_ff c91 h
    by_cases c106 : ((xs x4.toNatClampNeg) &&& 31) = 7
    · have h := g_tt c106 h
      refine g_tableIn C dL_law_39 (tgt := 596) (by rw [c106]; decide) (by rw [c106]; decide) (by rw [c106]; rfl) (by decide) ?_
      refine g_aload_n C 1 dL_law_596 rfl ?_
      refine g_aloadX_n C 0 dL_law_597 rfl ?_
      refine g_iload C 4 dL_law_598 rfl ?_
      refine g_iconst (v := 1) C dL_law_600 (by decide) ?_
      refine g_iadd C dL_law_601 ?_
      obtain ⟨hg107, h⟩ := g_gd h
      refine g_sld C CX hg107 dL_law_602 ?_
      refine g_aloadX_n C 0 dL_law_603 rfl ?_
      refine g_iload C 4 dL_law_604 rfl ?_
      refine g_iconst (v := 2) C dL_law_606 (by decide) ?_
      refine g_iadd C dL_law_607 ?_
      obtain ⟨hg108, h⟩ := g_gd h
      refine g_sld C CX hg108 dL_law_608 ?_
      refine g_aloadX_n C 0 dL_law_609 rfl ?_
      refine g_iload C 4 dL_law_610 rfl ?_
      refine g_iconst (v := 3) C dL_law_612 (by decide) ?_
      refine g_iadd C dL_law_613 ?_
      obtain ⟨hg109, h⟩ := g_gd h
      refine g_sld C CX hg109 dL_law_614 ?_
      refine g_aload_n C 3 dL_law_615 rfl ?_
      obtain ⟨q110, eq110, h⟩ := g_bd h
      obtain ⟨hg111, h⟩ := g_gd h
      refine g_callL C CX [gr 0, gi (xs (x4 + 1).toNatClampNeg), gi (xs (x4 + 2).toNatClampNeg), gi (xs (x4 + 3).toNatClampNeg), gr 192] (kL_either (by omega) CX.1 eq110) qsL_104 (by omega) rfl rfl (Nat.le_of_ble_eq_true rfl) hg111 dL_law_616 ?_
      refine g_istore C dL_law_619 (by decide) rfl ?_
      refine g_aload_n C 3 dL_law_621 rfl ?_
      refine g_aloadX_n C 1 dL_law_622 rfl ?_
      refine g_iload C 5 dL_law_623 rfl ?_
      refine g_iconst (v := 1) C dL_law_625 (by decide) ?_
      refine g_iadd C dL_law_626 ?_
      obtain ⟨hg112, h⟩ := g_gd h
      refine g_sld C CX hg112 dL_law_627 ?_
      refine g_aloadX_n C 1 dL_law_628 rfl ?_
      refine g_iload C 5 dL_law_629 rfl ?_
      refine g_iconst (v := 2) C dL_law_631 (by decide) ?_
      refine g_iadd C dL_law_632 ?_
      obtain ⟨hg113, h⟩ := g_gd h
      refine g_sld C CX hg113 dL_law_633 ?_
      refine g_aloadX_n C 1 dL_law_634 rfl ?_
      refine g_iload C 5 dL_law_635 rfl ?_
      refine g_iconst (v := 3) C dL_law_637 (by decide) ?_
      refine g_iadd C dL_law_638 ?_
      obtain ⟨hg114, h⟩ := g_gd h
      refine g_sld C CX hg114 dL_law_639 ?_
      obtain ⟨q115, eq115, h⟩ := g_bd h
      obtain ⟨hg116, h⟩ := g_gd h
      refine g_callAiV C 183 [gi (xs (x4 + 1).toNatClampNeg), gi (xs (x4 + 2).toNatClampNeg), gi (xs (x4 + 3).toNatClampNeg)] (kX6_either (by omega) hcp eq115) qs_L_106 (by omega) (by omega) rfl rfl rfl rfl (Nat.le_of_ble_eq_true rfl) hg116 (And.intro ⟨by omega, by omega⟩ (And.intro ⟨by omega, by omega⟩ (And.intro ⟨by omega, by omega⟩ True.intro))) True.intro dL_law_640 (fun ad ln hch => ?_)
      have hcp := hch.2
      refine g_istore C dL_law_643 (by decide) rfl ?_
      refine g_aload_n C 4 dL_law_645 rfl ?_
      obtain ⟨q117, eq117, h⟩ := g_bd h
      obtain ⟨hg118, h⟩ := g_gd h
      refine g_calliV C 183 [] (kX6_thrown (by omega) hcp eq117) qs_L_81 (by omega) (by omega) rfl rfl rfl rfl (Nat.le_of_ble_eq_true rfl) hg118 dL_law_646 ?_
      refine g_iload C 1 dL_law_649 rfl ?_
      refine g_icmp_eq C dL_law_651 (tgt := 656) (by decide) (fun c119 => ?_) (fun c119 => ?_)
      · have h := g_tt c119 h
        refine g_iload C 1 dL_law_656 rfl ?_
        refine g_if_ne C dL_law_658 (tgt := 673) (by decide) (fun c120 => ?_) (fun c120 => ?_)
        · have h := g_ff c120 h
          refine g_sub [2, 3, 4, 5, 6] rfl ?_
          exact wL_law_b673 C CX hK23 hcp h
        · have h := g_tt c120 h
          refine g_aload_n C 5 dL_law_661 rfl ?_
          refine g_iconst (v := 0) C dL_law_662 (by decide) ?_
          obtain ⟨hg121, h⟩ := g_gd h
          refine g_lald C (by omega) hg121 dL_law_663 ?_
          refine g_iload C 0 dL_law_664 rfl ?_
          refine g_i2l C dL_law_666 ?_
          refine g_lcmp C dL_law_667 ?_
          refine g_if_eq C dL_law_668 (tgt := 673) (by decide) (fun c122 => ?_) (fun c122 => ?_)
          · have h := g_tt c122 h
            refine g_sub [2, 3, 4, 5, 6] rfl ?_
            exact wL_law_b673 C CX hK23 hcp h
          · have h := g_ff c122 h
            refine g_iconst (v := 0) C dL_law_671 (by decide) ?_
            cases h
      · have h := g_ff c119 h
        refine g_iconst (v := 0) C dL_law_654 (by decide) ?_
        cases h
    have h := g_ff c106 h
    by_cases c123 : ((xs x4.toNatClampNeg) &&& 31) = 8
    · have h := g_tt c123 h
      refine g_tableIn C dL_law_39 (tgt := 676) (by rw [c123]; decide) (by rw [c123]; decide) (by rw [c123]; rfl) (by decide) ?_
      refine g_aload_n C 1 dL_law_676 rfl ?_
      refine g_aload_n C 3 dL_law_677 rfl ?_
      obtain ⟨q124, eq124, h⟩ := g_bd h
      obtain ⟨hg125, h⟩ := g_gd h
      refine g_callL C CX [gr 0, gr 192] (kL_undo (by omega) CX.1 eq124) qsL_107 (by omega) rfl rfl (Nat.le_of_ble_eq_true rfl) hg125 dL_law_678 ?_
      refine g_istore C dL_law_681 (by decide) rfl ?_
      refine g_aload_n C 3 dL_law_683 rfl ?_
      obtain ⟨q126, eq126, h⟩ := g_bd h
      obtain ⟨hg127, h⟩ := g_gd h
      refine g_calliV C 183 [] (kX6_undo (by omega) hcp eq126) qs_L_110 (by omega) (by omega) rfl rfl rfl rfl (Nat.le_of_ble_eq_true rfl) hg127 dL_law_684 ?_
      refine g_istore C dL_law_687 (by decide) rfl ?_
      refine g_aload_n C 4 dL_law_689 rfl ?_
      obtain ⟨q128, eq128, h⟩ := g_bd h
      obtain ⟨hg129, h⟩ := g_gd h
      refine g_calliV C 183 [] (kX6_thrown (by omega) hcp eq128) qs_L_81 (by omega) (by omega) rfl rfl rfl rfl (Nat.le_of_ble_eq_true rfl) hg129 dL_law_690 ?_
      refine g_iload C 1 dL_law_693 rfl ?_
      refine g_icmp_eq C dL_law_695 (tgt := 700) (by decide) (fun c130 => ?_) (fun c130 => ?_)
      · have h := g_tt c130 h
        refine g_iload C 1 dL_law_700 rfl ?_
        refine g_if_ne C dL_law_702 (tgt := 717) (by decide) (fun c131 => ?_) (fun c131 => ?_)
        · have h := g_ff c131 h
          refine g_sub [2, 3, 4, 5, 6] rfl ?_
          exact wL_law_b717 C CX hK23 hcp h
        · have h := g_tt c131 h
          refine g_aload_n C 5 dL_law_705 rfl ?_
          refine g_iconst (v := 0) C dL_law_706 (by decide) ?_
          obtain ⟨hg132, h⟩ := g_gd h
          refine g_lald C (by omega) hg132 dL_law_707 ?_
          refine g_iload C 0 dL_law_708 rfl ?_
          refine g_i2l C dL_law_710 ?_
          refine g_lcmp C dL_law_711 ?_
          refine g_if_eq C dL_law_712 (tgt := 717) (by decide) (fun c133 => ?_) (fun c133 => ?_)
          · have h := g_tt c133 h
            refine g_sub [2, 3, 4, 5, 6] rfl ?_
            exact wL_law_b717 C CX hK23 hcp h
          · have h := g_ff c133 h
            refine g_iconst (v := 0) C dL_law_715 (by decide) ?_
            cases h
      · have h := g_ff c130 h
        refine g_iconst (v := 0) C dL_law_698 (by decide) ?_
        cases h
    have h := g_ff c123 h
    by_cases c134 : ((xs x4.toNatClampNeg) &&& 31) = 9
    · have h := g_tt c134 h
      refine g_tableIn C dL_law_39 (tgt := 720) (by rw [c134]; decide) (by rw [c134]; decide) (by rw [c134]; rfl) (by decide) ?_
      refine g_aload_n C 1 dL_law_720 rfl ?_
      refine g_aloadX_n C 0 dL_law_721 rfl ?_
      refine g_iload C 4 dL_law_722 rfl ?_
      refine g_iconst (v := 1) C dL_law_724 (by decide) ?_
      refine g_iadd C dL_law_725 ?_
      obtain ⟨hg135, h⟩ := g_gd h
      refine g_sld C CX hg135 dL_law_726 ?_
      refine g_aloadX_n C 0 dL_law_727 rfl ?_
      refine g_iload C 4 dL_law_728 rfl ?_
      refine g_iconst (v := 2) C dL_law_730 (by decide) ?_
      refine g_iadd C dL_law_731 ?_
      obtain ⟨hg136, h⟩ := g_gd h
      refine g_sld C CX hg136 dL_law_732 ?_
      refine g_aload_n C 3 dL_law_733 rfl ?_
      obtain ⟨q137, eq137, h⟩ := g_bd h
      obtain ⟨hg138, h⟩ := g_gd h
      refine g_callL C CX [gr 0, gi (xs (x4 + 1).toNatClampNeg), gi (xs (x4 + 2).toNatClampNeg), gr 192] (kL_part (by omega) CX.1 eq137) qsL_111 (by omega) rfl rfl (Nat.le_of_ble_eq_true rfl) hg138 dL_law_734 ?_
      refine g_istore C dL_law_737 (by decide) rfl ?_
      refine g_aload_n C 3 dL_law_739 rfl ?_
      refine g_aloadX_n C 1 dL_law_740 rfl ?_
      refine g_iload C 5 dL_law_741 rfl ?_
      refine g_iconst (v := 1) C dL_law_743 (by decide) ?_
      refine g_iadd C dL_law_744 ?_
      obtain ⟨hg139, h⟩ := g_gd h
      refine g_sld C CX hg139 dL_law_745 ?_
      refine g_aloadX_n C 1 dL_law_746 rfl ?_
      refine g_iload C 5 dL_law_747 rfl ?_
      refine g_iconst (v := 2) C dL_law_749 (by decide) ?_
      refine g_iadd C dL_law_750 ?_
      obtain ⟨hg140, h⟩ := g_gd h
      refine g_sld C CX hg140 dL_law_751 ?_
      obtain ⟨q141, eq141, h⟩ := g_bd h
      obtain ⟨hg142, h⟩ := g_gd h
      refine g_calliV C 183 [gi (xs (x4 + 1).toNatClampNeg), gi (xs (x4 + 2).toNatClampNeg)] (kX6_part (by omega) hcp eq141) qs_L_113 (by omega) (by omega) rfl rfl rfl rfl (Nat.le_of_ble_eq_true rfl) hg142 dL_law_752 ?_
      refine g_istore C dL_law_755 (by decide) rfl ?_
      refine g_aload_n C 4 dL_law_757 rfl ?_
      obtain ⟨q143, eq143, h⟩ := g_bd h
      obtain ⟨hg144, h⟩ := g_gd h
      refine g_calliV C 183 [] (kX6_thrown (by omega) hcp eq143) qs_L_81 (by omega) (by omega) rfl rfl rfl rfl (Nat.le_of_ble_eq_true rfl) hg144 dL_law_758 ?_
      refine g_iload C 1 dL_law_761 rfl ?_
      refine g_icmp_eq C dL_law_763 (tgt := 768) (by decide) (fun c145 => ?_) (fun c145 => ?_)
      · have h := g_tt c145 h
        refine g_iload C 1 dL_law_768 rfl ?_
        refine g_if_ne C dL_law_770 (tgt := 785) (by decide) (fun c146 => ?_) (fun c146 => ?_)
        · have h := g_ff c146 h
          refine g_sub [2, 3, 4, 5, 6] rfl ?_
          exact wL_law_b785 C CX hK23 hcp h
        · have h := g_tt c146 h
          refine g_aload_n C 5 dL_law_773 rfl ?_
          refine g_iconst (v := 0) C dL_law_774 (by decide) ?_
          obtain ⟨hg147, h⟩ := g_gd h
          refine g_lald C (by omega) hg147 dL_law_775 ?_
          refine g_iload C 0 dL_law_776 rfl ?_
          refine g_i2l C dL_law_778 ?_
          refine g_lcmp C dL_law_779 ?_
          refine g_if_eq C dL_law_780 (tgt := 785) (by decide) (fun c148 => ?_) (fun c148 => ?_)
          · have h := g_tt c148 h
            refine g_sub [2, 3, 4, 5, 6] rfl ?_
            exact wL_law_b785 C CX hK23 hcp h
          · have h := g_ff c148 h
            refine g_iconst (v := 0) C dL_law_783 (by decide) ?_
            cases h
      · have h := g_ff c145 h
        refine g_iconst (v := 0) C dL_law_766 (by decide) ?_
        cases h
    have h := g_ff c134 h
    by_cases c149 : ((xs x4.toNatClampNeg) &&& 31) = 10
    · have h := g_tt c149 h
      refine g_tableIn C dL_law_39 (tgt := 788) (by rw [c149]; decide) (by rw [c149]; decide) (by rw [c149]; rfl) (by decide) ?_
      refine g_aload_n C 1 dL_law_788 rfl ?_
      refine g_aloadX_n C 0 dL_law_789 rfl ?_
      refine g_iload C 4 dL_law_790 rfl ?_
      refine g_iconst (v := 1) C dL_law_792 (by decide) ?_
      refine g_iadd C dL_law_793 ?_
      obtain ⟨hg150, h⟩ := g_gd h
      refine g_sld C CX hg150 dL_law_794 ?_
      refine g_aloadX_n C 0 dL_law_795 rfl ?_
      refine g_iload C 4 dL_law_796 rfl ?_
      refine g_iconst (v := 2) C dL_law_798 (by decide) ?_
      refine g_iadd C dL_law_799 ?_
      obtain ⟨hg151, h⟩ := g_gd h
      refine g_sld C CX hg151 dL_law_800 ?_
      refine g_aload_n C 3 dL_law_801 rfl ?_
      obtain ⟨q152, eq152, h⟩ := g_bd h
      obtain ⟨hg153, h⟩ := g_gd h
      refine g_callL C CX [gr 0, gi (xs (x4 + 1).toNatClampNeg), gi (xs (x4 + 2).toNatClampNeg), gr 192] (kL_type (by omega) CX.1 eq152) qsL_114 (by omega) rfl rfl (Nat.le_of_ble_eq_true rfl) hg153 dL_law_802 ?_
      refine g_istore C dL_law_805 (by decide) rfl ?_
      refine g_aload_n C 3 dL_law_807 rfl ?_
      refine g_aloadX_n C 1 dL_law_808 rfl ?_
      refine g_iload C 5 dL_law_809 rfl ?_
      refine g_iconst (v := 1) C dL_law_811 (by decide) ?_
      refine g_iadd C dL_law_812 ?_
      obtain ⟨hg154, h⟩ := g_gd h
      refine g_sld C CX hg154 dL_law_813 ?_
      refine g_aloadX_n C 1 dL_law_814 rfl ?_
      refine g_iload C 5 dL_law_815 rfl ?_
      refine g_iconst (v := 2) C dL_law_817 (by decide) ?_
      refine g_iadd C dL_law_818 ?_
      obtain ⟨hg155, h⟩ := g_gd h
      refine g_sld C CX hg155 dL_law_819 ?_
      obtain ⟨q156, eq156, h⟩ := g_bd h
      obtain ⟨hg157, h⟩ := g_gd h
      refine g_callAiV C 183 [gi (xs (x4 + 1).toNatClampNeg), gi (xs (x4 + 2).toNatClampNeg)] (kX6_type (by omega) hcp eq156) qs_L_116 (by omega) (by omega) rfl rfl rfl rfl (Nat.le_of_ble_eq_true rfl) hg157 (And.intro ⟨by omega, by omega⟩ (And.intro ⟨by omega, by omega⟩ (And.intro ⟨by omega, by omega⟩ True.intro))) True.intro dL_law_820 (fun ad ln hch => ?_)
      have hcp := hch.2
      refine g_istore C dL_law_823 (by decide) rfl ?_
      refine g_aload_n C 4 dL_law_825 rfl ?_
      obtain ⟨q158, eq158, h⟩ := g_bd h
      obtain ⟨hg159, h⟩ := g_gd h
      refine g_calliV C 183 [] (kX6_thrown (by omega) hcp eq158) qs_L_81 (by omega) (by omega) rfl rfl rfl rfl (Nat.le_of_ble_eq_true rfl) hg159 dL_law_826 ?_
      refine g_iload C 1 dL_law_829 rfl ?_
      refine g_icmp_eq C dL_law_831 (tgt := 836) (by decide) (fun c160 => ?_) (fun c160 => ?_)
      · have h := g_tt c160 h
        refine g_iload C 1 dL_law_836 rfl ?_
        refine g_if_ne C dL_law_838 (tgt := 853) (by decide) (fun c161 => ?_) (fun c161 => ?_)
        · have h := g_ff c161 h
          refine g_sub [2, 3, 4, 5, 6] rfl ?_
          exact wL_law_b853 C CX hK23 hcp h
        · have h := g_tt c161 h
          refine g_aload_n C 5 dL_law_841 rfl ?_
          refine g_iconst (v := 0) C dL_law_842 (by decide) ?_
          obtain ⟨hg162, h⟩ := g_gd h
          refine g_lald C (by omega) hg162 dL_law_843 ?_
          refine g_iload C 0 dL_law_844 rfl ?_
          refine g_i2l C dL_law_846 ?_
          refine g_lcmp C dL_law_847 ?_
          refine g_if_eq C dL_law_848 (tgt := 853) (by decide) (fun c163 => ?_) (fun c163 => ?_)
          · have h := g_tt c163 h
            refine g_sub [2, 3, 4, 5, 6] rfl ?_
            exact wL_law_b853 C CX hK23 hcp h
          · have h := g_ff c163 h
            refine g_iconst (v := 0) C dL_law_851 (by decide) ?_
            cases h
      · have h := g_ff c160 h
        refine g_iconst (v := 0) C dL_law_834 (by decide) ?_
        cases h
    have h := g_ff c149 h
    by_cases c164 : ((xs x4.toNatClampNeg) &&& 31) = 11
    · have h := g_tt c164 h
      refine g_tableIn C dL_law_39 (tgt := 856) (by rw [c164]; decide) (by rw [c164]; decide) (by rw [c164]; rfl) (by decide) ?_
      refine g_aload_n C 1 dL_law_856 rfl ?_
      refine g_aloadX_n C 0 dL_law_857 rfl ?_
      refine g_iload C 4 dL_law_858 rfl ?_
      refine g_iconst (v := 1) C dL_law_860 (by decide) ?_
      refine g_iadd C dL_law_861 ?_
      obtain ⟨hg165, h⟩ := g_gd h
      refine g_sld C CX hg165 dL_law_862 ?_
      refine g_aloadX_n C 0 dL_law_863 rfl ?_
      refine g_iload C 4 dL_law_864 rfl ?_
      refine g_iconst (v := 2) C dL_law_866 (by decide) ?_
      refine g_iadd C dL_law_867 ?_
      obtain ⟨hg166, h⟩ := g_gd h
      refine g_sld C CX hg166 dL_law_868 ?_
      refine g_aload_n C 3 dL_law_869 rfl ?_
      obtain ⟨q167, eq167, h⟩ := g_bd h
      obtain ⟨hg168, h⟩ := g_gd h
      refine g_callL C CX [gr 0, gi (xs (x4 + 1).toNatClampNeg), gi (xs (x4 + 2).toNatClampNeg), gr 192] (kL_code (by omega) CX.1 eq167) qsL_117 (by omega) rfl rfl (Nat.le_of_ble_eq_true rfl) hg168 dL_law_870 ?_
      refine g_istore C dL_law_873 (by decide) rfl ?_
      refine g_aload_n C 3 dL_law_875 rfl ?_
      refine g_aloadX_n C 1 dL_law_876 rfl ?_
      refine g_iload C 5 dL_law_877 rfl ?_
      refine g_iconst (v := 1) C dL_law_879 (by decide) ?_
      refine g_iadd C dL_law_880 ?_
      obtain ⟨hg169, h⟩ := g_gd h
      refine g_sld C CX hg169 dL_law_881 ?_
      refine g_aloadX_n C 1 dL_law_882 rfl ?_
      refine g_iload C 5 dL_law_883 rfl ?_
      refine g_iconst (v := 2) C dL_law_885 (by decide) ?_
      refine g_iadd C dL_law_886 ?_
      obtain ⟨hg170, h⟩ := g_gd h
      refine g_sld C CX hg170 dL_law_887 ?_
      obtain ⟨q171, eq171, h⟩ := g_bd h
      obtain ⟨hg172, h⟩ := g_gd h
      refine g_callAiV C 183 [gi (xs (x4 + 1).toNatClampNeg), gi (xs (x4 + 2).toNatClampNeg)] (kX6_code (by omega) hcp eq171) qs_L_119 (by omega) (by omega) rfl rfl rfl rfl (Nat.le_of_ble_eq_true rfl) hg172 (And.intro ⟨by omega, by omega⟩ (And.intro ⟨by omega, by omega⟩ (And.intro ⟨by omega, by omega⟩ True.intro))) True.intro dL_law_888 (fun ad ln hch => ?_)
      have hcp := hch.2
      refine g_istore C dL_law_891 (by decide) rfl ?_
      refine g_aload_n C 4 dL_law_893 rfl ?_
      obtain ⟨q173, eq173, h⟩ := g_bd h
      obtain ⟨hg174, h⟩ := g_gd h
      refine g_calliV C 183 [] (kX6_thrown (by omega) hcp eq173) qs_L_81 (by omega) (by omega) rfl rfl rfl rfl (Nat.le_of_ble_eq_true rfl) hg174 dL_law_894 ?_
      refine g_iload C 1 dL_law_897 rfl ?_
      refine g_icmp_eq C dL_law_899 (tgt := 904) (by decide) (fun c175 => ?_) (fun c175 => ?_)
      · have h := g_tt c175 h
        refine g_iload C 1 dL_law_904 rfl ?_
        refine g_if_ne C dL_law_906 (tgt := 921) (by decide) (fun c176 => ?_) (fun c176 => ?_)
        · have h := g_ff c176 h
          refine g_sub [2, 3, 4, 5, 6] rfl ?_
          exact wL_law_b921 C CX hK23 hcp h
        · have h := g_tt c176 h
          refine g_aload_n C 5 dL_law_909 rfl ?_
          refine g_iconst (v := 0) C dL_law_910 (by decide) ?_
          obtain ⟨hg177, h⟩ := g_gd h
          refine g_lald C (by omega) hg177 dL_law_911 ?_
          refine g_iload C 0 dL_law_912 rfl ?_
          refine g_i2l C dL_law_914 ?_
          refine g_lcmp C dL_law_915 ?_
          refine g_if_eq C dL_law_916 (tgt := 921) (by decide) (fun c178 => ?_) (fun c178 => ?_)
          · have h := g_tt c178 h
            refine g_sub [2, 3, 4, 5, 6] rfl ?_
            exact wL_law_b921 C CX hK23 hcp h
          · have h := g_ff c178 h
            refine g_iconst (v := 0) C dL_law_919 (by decide) ?_
            cases h
      · have h := g_ff c175 h
        refine g_iconst (v := 0) C dL_law_902 (by decide) ?_
        cases h
    have h := g_ff c164 h
    by_cases c179 : ((xs x4.toNatClampNeg) &&& 31) = 12
    · have h := g_tt c179 h
      refine g_tableIn C dL_law_39 (tgt := 924) (by rw [c179]; decide) (by rw [c179]; decide) (by rw [c179]; rfl) (by decide) ?_
      refine g_aload_n C 1 dL_law_924 rfl ?_
      refine g_aloadX_n C 0 dL_law_925 rfl ?_
      refine g_iload C 4 dL_law_926 rfl ?_
      refine g_iconst (v := 1) C dL_law_928 (by decide) ?_
      refine g_iadd C dL_law_929 ?_
      obtain ⟨hg180, h⟩ := g_gd h
      refine g_sld C CX hg180 dL_law_930 ?_
      refine g_aload_n C 3 dL_law_931 rfl ?_
      obtain ⟨q181, eq181, h⟩ := g_bd h
      obtain ⟨hg182, h⟩ := g_gd h
      refine g_callL C CX [gr 0, gi (xs (x4 + 1).toNatClampNeg), gr 192] (kL_count (by omega) CX.1 eq181) qsL_120 (by omega) rfl rfl (Nat.le_of_ble_eq_true rfl) hg182 dL_law_932 ?_
      refine g_istore C dL_law_935 (by decide) rfl ?_
      refine g_aload_n C 3 dL_law_937 rfl ?_
      refine g_aloadX_n C 1 dL_law_938 rfl ?_
      refine g_iload C 5 dL_law_939 rfl ?_
      refine g_iconst (v := 1) C dL_law_941 (by decide) ?_
      refine g_iadd C dL_law_942 ?_
      obtain ⟨hg183, h⟩ := g_gd h
      refine g_sld C CX hg183 dL_law_943 ?_
      obtain ⟨q184, eq184, h⟩ := g_bd h
      obtain ⟨hg185, h⟩ := g_gd h
      refine g_callAiV C 183 [gi (xs (x4 + 1).toNatClampNeg)] (kX6_count (by omega) hcp eq184) qs_L_122 (by omega) (by omega) rfl rfl rfl rfl (Nat.le_of_ble_eq_true rfl) hg185 (And.intro ⟨by omega, by omega⟩ (And.intro ⟨by omega, by omega⟩ (And.intro ⟨by omega, by omega⟩ True.intro))) True.intro dL_law_944 (fun ad ln hch => ?_)
      have hcp := hch.2
      refine g_istore C dL_law_947 (by decide) rfl ?_
      refine g_aload_n C 4 dL_law_949 rfl ?_
      obtain ⟨q186, eq186, h⟩ := g_bd h
      obtain ⟨hg187, h⟩ := g_gd h
      refine g_calliV C 183 [] (kX6_thrown (by omega) hcp eq186) qs_L_81 (by omega) (by omega) rfl rfl rfl rfl (Nat.le_of_ble_eq_true rfl) hg187 dL_law_950 ?_
      refine g_iload C 1 dL_law_953 rfl ?_
      refine g_icmp_eq C dL_law_955 (tgt := 960) (by decide) (fun c188 => ?_) (fun c188 => ?_)
      · have h := g_tt c188 h
        refine g_iload C 1 dL_law_960 rfl ?_
        refine g_if_ne C dL_law_962 (tgt := 977) (by decide) (fun c189 => ?_) (fun c189 => ?_)
        · have h := g_ff c189 h
          refine g_sub [2, 3, 4, 5, 6] rfl ?_
          exact wL_law_b977 C CX hK23 hcp h
        · have h := g_tt c189 h
          refine g_aload_n C 5 dL_law_965 rfl ?_
          refine g_iconst (v := 0) C dL_law_966 (by decide) ?_
          obtain ⟨hg190, h⟩ := g_gd h
          refine g_lald C (by omega) hg190 dL_law_967 ?_
          refine g_iload C 0 dL_law_968 rfl ?_
          refine g_i2l C dL_law_970 ?_
          refine g_lcmp C dL_law_971 ?_
          refine g_if_eq C dL_law_972 (tgt := 977) (by decide) (fun c191 => ?_) (fun c191 => ?_)
          · have h := g_tt c191 h
            refine g_sub [2, 3, 4, 5, 6] rfl ?_
            exact wL_law_b977 C CX hK23 hcp h
          · have h := g_ff c191 h
            refine g_iconst (v := 0) C dL_law_975 (by decide) ?_
            cases h
      · have h := g_ff c188 h
        refine g_iconst (v := 0) C dL_law_958 (by decide) ?_
        cases h
    have h := g_ff c179 h
    by_cases c192 : ((xs x4.toNatClampNeg) &&& 31) = 13
    · have h := g_tt c192 h
      refine g_tableIn C dL_law_39 (tgt := 980) (by rw [c192]; decide) (by rw [c192]; decide) (by rw [c192]; rfl) (by decide) ?_
      refine g_aload_n C 1 dL_law_980 rfl ?_
      refine g_aloadX_n C 0 dL_law_981 rfl ?_
      refine g_iload C 4 dL_law_982 rfl ?_
      refine g_iconst (v := 1) C dL_law_984 (by decide) ?_
      refine g_iadd C dL_law_985 ?_
      obtain ⟨hg193, h⟩ := g_gd h
      refine g_sld C CX hg193 dL_law_986 ?_
      refine g_aloadX_n C 0 dL_law_987 rfl ?_
      refine g_iload C 4 dL_law_988 rfl ?_
      refine g_iconst (v := 2) C dL_law_990 (by decide) ?_
      refine g_iadd C dL_law_991 ?_
      obtain ⟨hg194, h⟩ := g_gd h
      refine g_sld C CX hg194 dL_law_992 ?_
      refine g_aload_n C 3 dL_law_993 rfl ?_
      obtain ⟨q195, eq195, h⟩ := g_bd h
      obtain ⟨hg196, h⟩ := g_gd h
      refine g_callL C CX [gr 0, gi (xs (x4 + 1).toNatClampNeg), gi (xs (x4 + 2).toNatClampNeg), gr 192] (kL_same (by omega) CX.1 eq195) qsL_123 (by omega) rfl rfl (Nat.le_of_ble_eq_true rfl) hg196 dL_law_994 ?_
      refine g_istore C dL_law_997 (by decide) rfl ?_
      refine g_aload_n C 3 dL_law_999 rfl ?_
      refine g_aloadX_n C 1 dL_law_1000 rfl ?_
      refine g_iload C 5 dL_law_1001 rfl ?_
      refine g_iconst (v := 1) C dL_law_1003 (by decide) ?_
      refine g_iadd C dL_law_1004 ?_
      obtain ⟨hg197, h⟩ := g_gd h
      refine g_sld C CX hg197 dL_law_1005 ?_
      refine g_aloadX_n C 1 dL_law_1006 rfl ?_
      refine g_iload C 5 dL_law_1007 rfl ?_
      refine g_iconst (v := 2) C dL_law_1009 (by decide) ?_
      refine g_iadd C dL_law_1010 ?_
      obtain ⟨hg198, h⟩ := g_gd h
      refine g_sld C CX hg198 dL_law_1011 ?_
      obtain ⟨q199, eq199, h⟩ := g_bd h
      obtain ⟨hg200, h⟩ := g_gd h
      refine g_callAiV C 183 [gi (xs (x4 + 1).toNatClampNeg), gi (xs (x4 + 2).toNatClampNeg)] (kX6_same (by omega) hcp eq199) qs_L_125 (by omega) (by omega) rfl rfl rfl rfl (Nat.le_of_ble_eq_true rfl) hg200 (And.intro ⟨by omega, by omega⟩ (And.intro ⟨by omega, by omega⟩ (And.intro ⟨by omega, by omega⟩ True.intro))) True.intro dL_law_1012 (fun ad ln hch => ?_)
      have hcp := hch.2
      refine g_istore C dL_law_1015 (by decide) rfl ?_
      refine g_aload_n C 4 dL_law_1017 rfl ?_
      obtain ⟨q201, eq201, h⟩ := g_bd h
      obtain ⟨hg202, h⟩ := g_gd h
      refine g_calliV C 183 [] (kX6_thrown (by omega) hcp eq201) qs_L_81 (by omega) (by omega) rfl rfl rfl rfl (Nat.le_of_ble_eq_true rfl) hg202 dL_law_1018 ?_
      refine g_iload C 1 dL_law_1021 rfl ?_
      refine g_icmp_eq C dL_law_1023 (tgt := 1028) (by decide) (fun c203 => ?_) (fun c203 => ?_)
      · have h := g_tt c203 h
        refine g_iload C 1 dL_law_1028 rfl ?_
        refine g_if_ne C dL_law_1030 (tgt := 1052) (by decide) (fun c204 => ?_) (fun c204 => ?_)
        · have h := g_ff c204 h
          refine g_sub [2, 3, 4, 5, 6] rfl ?_
          exact wL_law_b1052 C CX hK23 hcp h
        · have h := g_tt c204 h
          refine g_aload_n C 5 dL_law_1033 rfl ?_
          refine g_iconst (v := 0) C dL_law_1034 (by decide) ?_
          obtain ⟨hg205, h⟩ := g_gd h
          refine g_lald C (by omega) hg205 dL_law_1035 ?_
          refine g_iload C 0 dL_law_1036 rfl ?_
          refine g_if_eq C dL_law_1038 (tgt := 1045) (by decide) (fun c206 => ?_) (fun c206 => ?_)
          · have h := g_tt c206 h
            refine g_lconst (v := 0) C dL_law_1045 (by decide) ?_
            refine g_sub [2, 3, 4, 5, 6] rfl ?_
            exact wL_law_b1046 C CX hK23 hcp h
          · have h := g_ff c206 h
            refine g_lconst (v := 1) C dL_law_1041 (by decide) ?_
            refine g_goto C dL_law_1042 (tgt := 1046) (by decide) ?_
            refine g_sub [2, 3, 4, 5, 6] rfl ?_
            exact wL_law_b1046 C CX hK23 hcp h
      · have h := g_ff c203 h
        refine g_iconst (v := 0) C dL_law_1026 (by decide) ?_
        cases h
    have h := g_ff c192 h
    by_cases c207 : ((xs x4.toNatClampNeg) &&& 31) = 14
    · have h := g_tt c207 h
      refine g_tableIn C dL_law_39 (tgt := 1055) (by rw [c207]; decide) (by rw [c207]; decide) (by rw [c207]; rfl) (by decide) ?_
      refine g_aload_n C 1 dL_law_1055 rfl ?_
      refine g_aloadX_n C 0 dL_law_1056 rfl ?_
      refine g_iload C 4 dL_law_1057 rfl ?_
      refine g_iconst (v := 1) C dL_law_1059 (by decide) ?_
      refine g_iadd C dL_law_1060 ?_
      obtain ⟨hg208, h⟩ := g_gd h
      refine g_sld C CX hg208 dL_law_1061 ?_
      refine g_aloadX_n C 0 dL_law_1062 rfl ?_
      refine g_iload C 4 dL_law_1063 rfl ?_
      refine g_iconst (v := 2) C dL_law_1065 (by decide) ?_
      refine g_iadd C dL_law_1066 ?_
      obtain ⟨hg209, h⟩ := g_gd h
      refine g_sld C CX hg209 dL_law_1067 ?_
      refine g_aload_n C 3 dL_law_1068 rfl ?_
      obtain ⟨q210, eq210, h⟩ := g_bd h
      obtain ⟨hg211, h⟩ := g_gd h
      refine g_callL C CX [gr 0, gi (xs (x4 + 1).toNatClampNeg), gi (xs (x4 + 2).toNatClampNeg), gr 192] (kL_fits (by omega) CX.1 eq210) qsL_126 (by omega) rfl rfl (Nat.le_of_ble_eq_true rfl) hg211 dL_law_1069 ?_
      refine g_istore C dL_law_1072 (by decide) rfl ?_
      refine g_aload_n C 3 dL_law_1074 rfl ?_
      refine g_aloadX_n C 1 dL_law_1075 rfl ?_
      refine g_iload C 5 dL_law_1076 rfl ?_
      refine g_iconst (v := 1) C dL_law_1078 (by decide) ?_
      refine g_iadd C dL_law_1079 ?_
      obtain ⟨hg212, h⟩ := g_gd h
      refine g_sld C CX hg212 dL_law_1080 ?_
      refine g_aloadX_n C 1 dL_law_1081 rfl ?_
      refine g_iload C 5 dL_law_1082 rfl ?_
      refine g_iconst (v := 2) C dL_law_1084 (by decide) ?_
      refine g_iadd C dL_law_1085 ?_
      obtain ⟨hg213, h⟩ := g_gd h
      refine g_sld C CX hg213 dL_law_1086 ?_
      obtain ⟨q214, eq214, h⟩ := g_bd h
      obtain ⟨hg215, h⟩ := g_gd h
      refine g_callAiV C 183 [gi (xs (x4 + 1).toNatClampNeg), gi (xs (x4 + 2).toNatClampNeg)] (kX6_fits (by omega) hcp eq214) qs_L_128 (by omega) (by omega) rfl rfl rfl rfl (Nat.le_of_ble_eq_true rfl) hg215 (And.intro ⟨by omega, by omega⟩ (And.intro ⟨by omega, by omega⟩ (And.intro ⟨by omega, by omega⟩ True.intro))) True.intro dL_law_1087 (fun ad ln hch => ?_)
      have hcp := hch.2
      refine g_istore C dL_law_1090 (by decide) rfl ?_
      refine g_aload_n C 4 dL_law_1092 rfl ?_
      obtain ⟨q216, eq216, h⟩ := g_bd h
      obtain ⟨hg217, h⟩ := g_gd h
      refine g_calliV C 183 [] (kX6_thrown (by omega) hcp eq216) qs_L_81 (by omega) (by omega) rfl rfl rfl rfl (Nat.le_of_ble_eq_true rfl) hg217 dL_law_1093 ?_
      refine g_iload C 1 dL_law_1096 rfl ?_
      refine g_icmp_eq C dL_law_1098 (tgt := 1103) (by decide) (fun c218 => ?_) (fun c218 => ?_)
      · have h := g_tt c218 h
        refine g_iload C 1 dL_law_1103 rfl ?_
        refine g_if_ne C dL_law_1105 (tgt := 1127) (by decide) (fun c219 => ?_) (fun c219 => ?_)
        · have h := g_ff c219 h
          refine g_sub [2, 3, 4, 5, 6] rfl ?_
          exact wL_law_b1127 C CX hK23 hcp h
        · have h := g_tt c219 h
          refine g_aload_n C 5 dL_law_1108 rfl ?_
          refine g_iconst (v := 0) C dL_law_1109 (by decide) ?_
          obtain ⟨hg220, h⟩ := g_gd h
          refine g_lald C (by omega) hg220 dL_law_1110 ?_
          refine g_iload C 0 dL_law_1111 rfl ?_
          refine g_if_eq C dL_law_1113 (tgt := 1120) (by decide) (fun c221 => ?_) (fun c221 => ?_)
          · have h := g_tt c221 h
            refine g_lconst (v := 0) C dL_law_1120 (by decide) ?_
            refine g_sub [2, 3, 4, 5, 6] rfl ?_
            exact wL_law_b1121 C CX hK23 hcp h
          · have h := g_ff c221 h
            refine g_lconst (v := 1) C dL_law_1116 (by decide) ?_
            refine g_goto C dL_law_1117 (tgt := 1121) (by decide) ?_
            refine g_sub [2, 3, 4, 5, 6] rfl ?_
            exact wL_law_b1121 C CX hK23 hcp h
      · have h := g_ff c218 h
        refine g_iconst (v := 0) C dL_law_1101 (by decide) ?_
        cases h
    have h := g_ff c207 h
    by_cases c222 : ((xs x4.toNatClampNeg) &&& 31) = 15
    · have h := g_tt c222 h
      refine g_tableIn C dL_law_39 (tgt := 1130) (by rw [c222]; decide) (by rw [c222]; decide) (by rw [c222]; rfl) (by decide) ?_
      refine g_aload_n C 1 dL_law_1130 rfl ?_
      refine g_aloadX_n C 0 dL_law_1131 rfl ?_
      refine g_iload C 4 dL_law_1132 rfl ?_
      refine g_iconst (v := 1) C dL_law_1134 (by decide) ?_
      refine g_iadd C dL_law_1135 ?_
      obtain ⟨hg223, h⟩ := g_gd h
      refine g_sld C CX hg223 dL_law_1136 ?_
      refine g_aloadX_n C 0 dL_law_1137 rfl ?_
      refine g_iload C 4 dL_law_1138 rfl ?_
      refine g_iconst (v := 2) C dL_law_1140 (by decide) ?_
      refine g_iadd C dL_law_1141 ?_
      obtain ⟨hg224, h⟩ := g_gd h
      refine g_sld C CX hg224 dL_law_1142 ?_
      refine g_aload_n C 3 dL_law_1143 rfl ?_
      obtain ⟨q225, eq225, h⟩ := g_bd h
      obtain ⟨hg226, h⟩ := g_gd h
      refine g_callL C CX [gr 0, gi (xs (x4 + 1).toNatClampNeg), gi (xs (x4 + 2).toNatClampNeg), gr 192] (kL_goes (by omega) CX.1 eq225) qsL_129 (by omega) rfl rfl (Nat.le_of_ble_eq_true rfl) hg226 dL_law_1144 ?_
      refine g_istore C dL_law_1147 (by decide) rfl ?_
      refine g_aload_n C 3 dL_law_1149 rfl ?_
      refine g_aloadX_n C 1 dL_law_1150 rfl ?_
      refine g_iload C 5 dL_law_1151 rfl ?_
      refine g_iconst (v := 1) C dL_law_1153 (by decide) ?_
      refine g_iadd C dL_law_1154 ?_
      obtain ⟨hg227, h⟩ := g_gd h
      refine g_sld C CX hg227 dL_law_1155 ?_
      refine g_aloadX_n C 1 dL_law_1156 rfl ?_
      refine g_iload C 5 dL_law_1157 rfl ?_
      refine g_iconst (v := 2) C dL_law_1159 (by decide) ?_
      refine g_iadd C dL_law_1160 ?_
      obtain ⟨hg228, h⟩ := g_gd h
      refine g_sld C CX hg228 dL_law_1161 ?_
      obtain ⟨q229, eq229, h⟩ := g_bd h
      obtain ⟨hg230, h⟩ := g_gd h
      refine g_callAiV C 183 [gi (xs (x4 + 1).toNatClampNeg), gi (xs (x4 + 2).toNatClampNeg)] (kX6_goes (by omega) hcp eq229) qs_L_131 (by omega) (by omega) rfl rfl rfl rfl (Nat.le_of_ble_eq_true rfl) hg230 (And.intro ⟨by omega, by omega⟩ (And.intro ⟨by omega, by omega⟩ (And.intro ⟨by omega, by omega⟩ True.intro))) True.intro dL_law_1162 (fun ad ln hch => ?_)
      have hcp := hch.2
      refine g_istore C dL_law_1165 (by decide) rfl ?_
      refine g_aload_n C 4 dL_law_1167 rfl ?_
      obtain ⟨q231, eq231, h⟩ := g_bd h
      obtain ⟨hg232, h⟩ := g_gd h
      refine g_calliV C 183 [] (kX6_thrown (by omega) hcp eq231) qs_L_81 (by omega) (by omega) rfl rfl rfl rfl (Nat.le_of_ble_eq_true rfl) hg232 dL_law_1168 ?_
      refine g_iload C 1 dL_law_1171 rfl ?_
      refine g_icmp_eq C dL_law_1173 (tgt := 1178) (by decide) (fun c233 => ?_) (fun c233 => ?_)
      · have h := g_tt c233 h
        refine g_iload C 1 dL_law_1178 rfl ?_
        refine g_if_ne C dL_law_1180 (tgt := 1195) (by decide) (fun c234 => ?_) (fun c234 => ?_)
        · have h := g_ff c234 h
          refine g_sub [2, 3, 4, 5, 6] rfl ?_
          exact wL_law_b1195 C CX hK23 hcp h
        · have h := g_tt c234 h
          refine g_aload_n C 5 dL_law_1183 rfl ?_
          refine g_iconst (v := 0) C dL_law_1184 (by decide) ?_
          obtain ⟨hg235, h⟩ := g_gd h
          refine g_lald C (by omega) hg235 dL_law_1185 ?_
          refine g_iload C 0 dL_law_1186 rfl ?_
          refine g_i2l C dL_law_1188 ?_
          refine g_lcmp C dL_law_1189 ?_
          refine g_if_eq C dL_law_1190 (tgt := 1195) (by decide) (fun c236 => ?_) (fun c236 => ?_)
          · have h := g_tt c236 h
            refine g_sub [2, 3, 4, 5, 6] rfl ?_
            exact wL_law_b1195 C CX hK23 hcp h
          · have h := g_ff c236 h
            refine g_iconst (v := 0) C dL_law_1193 (by decide) ?_
            cases h
      · have h := g_ff c233 h
        refine g_iconst (v := 0) C dL_law_1176 (by decide) ?_
        cases h
    have h := g_ff c222 h
    by_cases c237 : ((xs x4.toNatClampNeg) &&& 31) = 16
    · have h := g_tt c237 h
      refine g_tableIn C dL_law_39 (tgt := 1198) (by rw [c237]; decide) (by rw [c237]; decide) (by rw [c237]; rfl) (by decide) ?_
      refine g_aload_n C 1 dL_law_1198 rfl ?_
      refine g_aloadX_n C 0 dL_law_1199 rfl ?_
      refine g_iload C 4 dL_law_1200 rfl ?_
      refine g_iconst (v := 1) C dL_law_1202 (by decide) ?_
      refine g_iadd C dL_law_1203 ?_
      obtain ⟨hg238, h⟩ := g_gd h
      refine g_sld C CX hg238 dL_law_1204 ?_
      refine g_aload_n C 3 dL_law_1205 rfl ?_
      obtain ⟨q239, eq239, h⟩ := g_bd h
      obtain ⟨hg240, h⟩ := g_gd h
      refine g_callL C CX [gr 0, gi (xs (x4 + 1).toNatClampNeg), gr 192] (kL_first (by omega) CX.1 eq239) qsL_132 (by omega) rfl rfl (Nat.le_of_ble_eq_true rfl) hg240 dL_law_1206 ?_
      refine g_istore C dL_law_1209 (by decide) rfl ?_
      refine g_aload_n C 3 dL_law_1211 rfl ?_
      refine g_aloadX_n C 1 dL_law_1212 rfl ?_
      refine g_iload C 5 dL_law_1213 rfl ?_
      refine g_iconst (v := 1) C dL_law_1215 (by decide) ?_
      refine g_iadd C dL_law_1216 ?_
      obtain ⟨hg241, h⟩ := g_gd h
      refine g_sld C CX hg241 dL_law_1217 ?_
      obtain ⟨q242, eq242, h⟩ := g_bd h
      obtain ⟨hg243, h⟩ := g_gd h
      refine g_callAiV C 183 [gi (xs (x4 + 1).toNatClampNeg)] (kX6_first (by omega) hcp eq242) qs_L_134 (by omega) (by omega) rfl rfl rfl rfl (Nat.le_of_ble_eq_true rfl) hg243 (And.intro ⟨by omega, by omega⟩ (And.intro ⟨by omega, by omega⟩ (And.intro ⟨by omega, by omega⟩ True.intro))) True.intro dL_law_1218 (fun ad ln hch => ?_)
      have hcp := hch.2
      refine g_istore C dL_law_1221 (by decide) rfl ?_
      refine g_aload_n C 4 dL_law_1223 rfl ?_
      obtain ⟨q244, eq244, h⟩ := g_bd h
      obtain ⟨hg245, h⟩ := g_gd h
      refine g_calliV C 183 [] (kX6_thrown (by omega) hcp eq244) qs_L_81 (by omega) (by omega) rfl rfl rfl rfl (Nat.le_of_ble_eq_true rfl) hg245 dL_law_1224 ?_
      refine g_iload C 1 dL_law_1227 rfl ?_
      refine g_icmp_eq C dL_law_1229 (tgt := 1234) (by decide) (fun c246 => ?_) (fun c246 => ?_)
      · have h := g_tt c246 h
        refine g_iload C 1 dL_law_1234 rfl ?_
        refine g_if_ne C dL_law_1236 (tgt := 1251) (by decide) (fun c247 => ?_) (fun c247 => ?_)
        · have h := g_ff c247 h
          refine g_sub [2, 3, 4, 5, 6] rfl ?_
          exact wL_law_b1251 C CX hK23 hcp h
        · have h := g_tt c247 h
          refine g_aload_n C 5 dL_law_1239 rfl ?_
          refine g_iconst (v := 0) C dL_law_1240 (by decide) ?_
          obtain ⟨hg248, h⟩ := g_gd h
          refine g_lald C (by omega) hg248 dL_law_1241 ?_
          refine g_iload C 0 dL_law_1242 rfl ?_
          refine g_i2l C dL_law_1244 ?_
          refine g_lcmp C dL_law_1245 ?_
          refine g_if_eq C dL_law_1246 (tgt := 1251) (by decide) (fun c249 => ?_) (fun c249 => ?_)
          · have h := g_tt c249 h
            refine g_sub [2, 3, 4, 5, 6] rfl ?_
            exact wL_law_b1251 C CX hK23 hcp h
          · have h := g_ff c249 h
            refine g_iconst (v := 0) C dL_law_1249 (by decide) ?_
            cases h
      · have h := g_ff c246 h
        refine g_iconst (v := 0) C dL_law_1232 (by decide) ?_
        cases h
    have h := g_ff c237 h
    by_cases c250 : ((xs x4.toNatClampNeg) &&& 31) = 17
    · have h := g_tt c250 h
      refine g_tableIn C dL_law_39 (tgt := 1254) (by rw [c250]; decide) (by rw [c250]; decide) (by rw [c250]; rfl) (by decide) ?_
      refine g_aload_n C 1 dL_law_1254 rfl ?_
      obtain ⟨q251, eq251, h⟩ := g_bd h
      obtain ⟨hg252, h⟩ := g_gd h
      refine g_calliV C 0 [] (kX5_longest (by omega) eq251) qs_L_135 (by omega) (by omega) rfl rfl rfl rfl (Nat.le_of_ble_eq_true rfl) hg252 dL_law_1255 ?_
      refine g_aload_n C 2 dL_law_1258 rfl ?_
      obtain ⟨q253, eq253, h⟩ := g_bd h
      obtain ⟨hg254, h⟩ := g_gd h
      refine g_callAiV C 183 [] (kX6_longest (by omega) hcp eq253) qs_L_138 (by omega) (by omega) rfl rfl rfl rfl (Nat.le_of_ble_eq_true rfl) hg254 (And.intro ⟨by omega, by omega⟩ (And.intro ⟨by omega, by omega⟩ (And.intro ⟨by omega, by omega⟩ True.intro))) True.intro dL_law_1259 (fun ad ln hch => ?_)
      have hcp := hch.2
      refine g_icmp_eq C dL_law_1262 (tgt := 1322) (by decide) (fun c255 => ?_) (fun c255 => ?_)
      · have h := g_tt c255 h
        refine g_sub [0, 1, 2, 3, 4] rfl ?_
        exact wL_law_b1322 C CX hK23 hcp h
      · have h := g_ff c255 h
        refine g_iconst (v := 0) C dL_law_1265 (by decide) ?_
        cases h
    have h := g_ff c250 h
    by_cases c256 : ((xs x4.toNatClampNeg) &&& 31) = 18
    · have h := g_tt c256 h
      refine g_tableIn C dL_law_39 (tgt := 1267) (by rw [c256]; decide) (by rw [c256]; decide) (by rw [c256]; rfl) (by decide) ?_
      refine g_aload_n C 1 dL_law_1267 rfl ?_
      obtain ⟨q257, eq257, h⟩ := g_bd h
      obtain ⟨hg258, h⟩ := g_gd h
      refine g_calldV C 0 [] (kX5_mean (by omega) eq257) qs_L_139 (by omega) (by omega) rfl rfl rfl rfl (Nat.le_of_ble_eq_true rfl) hg258 dL_law_1268 ?_
      refine g_dstore C dL_law_1271 (by decide) rfl ?_
      refine g_aload_n C 3 dL_law_1273 rfl ?_
      obtain ⟨q259, eq259, h⟩ := g_bd h
      obtain ⟨hg260, h⟩ := g_gd h
      refine g_callAdV C 183 [] (kX6_mean (by omega) hcp eq259) qs_L_143 (by omega) (by omega) rfl rfl rfl rfl (Nat.le_of_ble_eq_true rfl) hg260 (And.intro ⟨by omega, by omega⟩ (And.intro ⟨by omega, by omega⟩ (And.intro ⟨by omega, by omega⟩ True.intro))) True.intro dL_law_1274 (fun ad ln hch => ?_)
      have hcp := hch.2
      refine g_dstore C dL_law_1277 (by decide) rfl ?_
      refine g_dload C 1 dL_law_1279 rfl ?_
      refine g_dload C 0 dL_law_1281 rfl ?_
      refine g_dcmp C dL_law_1283 ?_
      refine g_if_eq C dL_law_1284 (tgt := 1305) (by decide) (fun c261 => ?_) (fun c261 => ?_)
      · have h := g_tt c261 h
        refine g_sub [2, 3, 4, 5, 6] rfl ?_
        exact wL_law_b1305 C CX hK23 hcp h
      · have h := g_ff c261 h
        refine g_dload C 1 dL_law_1287 rfl ?_
        refine g_dload C 1 dL_law_1289 rfl ?_
        refine g_dcmp C dL_law_1291 ?_
        refine g_if_eq C dL_law_1292 (tgt := 1303) (by decide) (fun c262 => ?_) (fun c262 => ?_)
        · have h := g_tt c262 h
          refine g_sub [] rfl ?_
          exact wL_law_b1303 C CX hcp h
        · have h := g_ff c262 h
          refine g_dload C 0 dL_law_1295 rfl ?_
          refine g_dload C 0 dL_law_1297 rfl ?_
          refine g_dcmp C dL_law_1299 ?_
          refine g_if_ne C dL_law_1300 (tgt := 1305) (by decide) (fun c263 => ?_) (fun c263 => ?_)
          · have h := g_ff c263 h
            refine g_sub [2, 3, 4, 5, 6] rfl ?_
            exact wL_law_b1305 C CX hK23 hcp h
          · have h := g_tt c263 h
            refine g_sub [] rfl ?_
            exact wL_law_b1303 C CX hcp h
    have h := g_ff c256 h
    by_cases c264 : ((xs x4.toNatClampNeg) &&& 31) = 19
    · have h := g_tt c264 h
      refine g_tableIn C dL_law_39 (tgt := 1308) (by rw [c264]; decide) (by rw [c264]; decide) (by rw [c264]; rfl) (by decide) ?_
      refine g_aload_n C 1 dL_law_1308 rfl ?_
      obtain ⟨q265, eq265, h⟩ := g_bd h
      obtain ⟨hg266, h⟩ := g_gd h
      refine g_calllV C 0 [] (kX5_digest (by omega) eq265) qs_L_144 (by omega) (by omega) rfl rfl rfl rfl (Nat.le_of_ble_eq_true rfl) hg266 dL_law_1309 ?_
      refine g_aload_n C 2 dL_law_1312 rfl ?_
      obtain ⟨q267, eq267, h⟩ := g_bd h
      obtain ⟨hg268, h⟩ := g_gd h
      refine g_callAlV C 183 [] (kX6_digest (by omega) hcp eq267) qs_L_148 (by omega) (by omega) rfl rfl rfl rfl (Nat.le_of_ble_eq_true rfl) hg268 (And.intro ⟨by omega, by omega⟩ (And.intro ⟨by omega, by omega⟩ (And.intro ⟨by omega, by omega⟩ True.intro))) True.intro dL_law_1313 (fun ad ln hch => ?_)
      have hcp := hch.2
      refine g_lcmp C dL_law_1316 ?_
      refine g_if_eq C dL_law_1317 (tgt := 1322) (by decide) (fun c269 => ?_) (fun c269 => ?_)
      · have h := g_tt c269 h
        refine g_sub [0, 1, 2, 3, 4] rfl ?_
        exact wL_law_b1322 C CX hK23 hcp h
      · have h := g_ff c269 h
        refine g_iconst (v := 0) C dL_law_1320 (by decide) ?_
        cases h
    have h := g_ff c264 h
    refine g_tableOut C dL_law_39 (tgt := 1322) (g_sw0_19 c3 c16 c29 c44 c59 c76 c91 c106 c123 c134 c149 c164 c179 c192 c207 c222 c237 c250 c256 c264) (by decide) ?_
    refine g_sub [0, 1, 2, 3, 4] rfl ?_
    exact wL_law_b1322 C CX hK23 hcp h

set_option maxHeartbeats 4000000 in
set_option maxRecDepth 20000 in
theorem wL_law_L23 (C : gC p room_1 s m #[Value.ref b] meth c cL_law RL 9 D g (fun q : Nat => s.heap.size ≤ q) 2048) (CX : gLX l s meth b L xs) : ∀ (f : Nat) {ad ln : Nat → Nat} {cp k n : Nat} (_ : g_cap ln cp) {A : gM} {x4 : Int32}, mL_law_L23 xs L f cp k n A x4 = some () → gJ p l e room_1 s m #[Value.ref b] below meth c (lw_Z below #[Value.ref b] s) 9 D g (fun q : Nat => s.heap.size ≤ q) 193 ad ln A [(0, .inr (.ref b)), (1, gr 0), (2, gr 183), (3, gr 192), (4, gi x4)] k n 23 []
  | 0, ad, ln, cp, k, n, hcp, A, x4, h => by cases h
  | f + 1, ad, ln, cp, k, n, hcp, A, x4, h => wL_law_b23 (K23 := mL_law_L23 xs L f) C CX (fun {ad ln} {cp k n} hcp {A} {x4} h => wL_law_L23 C CX f hcp h) hcp h
end LAW
