/-! STEPS OF BOTH -/
theorem Sim_adv {Ac : gM} {uc : Nat} {Tc : Nat → Rw} {sc : Nat} {Ar : gM} {cp b ur : Nat} {Tr : Nat → Rw} {ρ : Nat → Nat} {V W : Nat → Prop} {ar : Nat} {env : Nat → Rw} {om : Nat → Nat → Nat} {tn : Nat → Nat} {ze zl zt : Nat} {Ac' : gM} {uc' : Nat} {Tc' : Nat → Rw} {sc' : Nat} {Ar' : gM} {cp' ur' : Nat} {Tr' : Nat → Rw} {ρ' : Nat → Nat} {V' : Nat → Prop}
    (h : Sim Ac uc Tc sc Ar cp b ur Tr ρ V W ar env om tn ze zl zt) (ha : Adv uc Tc ur Tr ρ V W Ar uc' Tc' ur' Tr' ρ' V' Ar') (h1 : ∃ ch, sT Ac' uc' Tc' ch) (h2 : stI Ac' sc') (h3 : ∃ ch, rW Ar' cp' b ur' Tr' ch) (h4 : RLV uc' ur' Ar' ρ' V') (h5 : Ac' 138 3 = Ac 138 3) (h6 : Ar' 183 9 = Ar 183 9)
    (q1 : ∀ k, k < ar → Ac' 139 k = Ac 139 k) (q2 : ∀ k, k < ar → Ac' 181 k = Ac 181 k) (q3 : ∀ k, k < ar → Ac' (141 + k) = Ac (141 + k)) (q4 : ∀ k, k < ar + ze → Ar' 190 k = Ar 190 k) (q5 : ∀ k, k < ar + ze → Ar' 191 k = Ar 191 k) : Sim Ac' uc' Tc' sc' Ar' cp' b ur' Tr' ρ' V' (fun x => V' x ∧ (V x → W x)) ar env om tn ze zl zt := by
  obtain ⟨s1, s2, s3, s4, s5, s6, s7, s8⟩ := h
  exact ⟨h1, h2, h3, h4, fun x hx => hx.1, ⟨by rw [h5]; exact s6.1, by rw [h6]; exact s6.2.1, s6.2.2⟩, fun k hk => entry_adv s4.1.low h4.1.low s5 ha (q1 k hk) (q2 k hk) (q3 k hk) (q4 (k + ze) (by omega)) (q5 (k + ze) (by omega)) (s7 k hk), EX_adv s5 ha (fun j hj => q4 j (by omega)) (fun j hj => q5 j (by omega)) s8⟩
theorem entry_W {ze : Nat} {Ac Ar : gM} {uc ur b : Nat} {Tc Tr : Nat → Rw} {ρ : Nat → Nat} {W W' : Nat → Prop} {k t : Nat} {R : Rw} {o : Nat → Nat} (hW : ∀ x, W x → W' x) (h : entry ze Ac Ar uc ur b Tc Tr ρ W k R o t) : entry ze Ac Ar uc ur b Tc Tr ρ W' k R o t := by
  obtain ⟨e1, e2, e3, e4, e5, e6, e7, e8, e9, e10, e11, e12⟩ := h
  exact ⟨e1, e2, e3, e4, e5, e6, e7, e8, e9, fun c hc h2 x hx => (e10 c hc h2 x hx).imp id (hW x), e11, e12⟩
theorem Sim_W {Ac : gM} {uc : Nat} {Tc : Nat → Rw} {sc : Nat} {Ar : gM} {cp b ur : Nat} {Tr : Nat → Rw} {ρ : Nat → Nat} {V W W' : Nat → Prop} {ar : Nat} {env : Nat → Rw} {om : Nat → Nat → Nat} {tn : Nat → Nat} {ze zl zt : Nat} (hW : ∀ x, W x → W' x) (hV : ∀ x, W' x → V x) (h : Sim Ac uc Tc sc Ar cp b ur Tr ρ V W ar env om tn ze zl zt) : Sim Ac uc Tc sc Ar cp b ur Tr ρ V W' ar env om tn ze zl zt := by
  obtain ⟨s1, s2, s3, s4, s5, s6, s7, s8⟩ := h
  exact ⟨s1, s2, s3, s4, hV, s6, fun k hk => entry_W hW (s7 k hk), s8⟩
theorem apL_sub {bs : List (Nat × Rw)} : ∀ {r : Rw}, apL bs r = subE (fun c => apL bs [c]) r
  | [] => apL_nil
  | c :: r => by rw [subE_cons, ← apL_sub (r := r), ← apL_app2]; rfl
/-- two types made the same on both sides -/
theorem both_join0 {Ac : gM} {uc : Nat} {Tc : Nat → Rw} {sc : Nat} {Ar : gM} {cp b ur : Nat} {Tr : Nat → Rw} {ρ : Nat → Nat} {V W : Nat → Prop} {a d a' d' : Nat} {part : Int32} {Pr : Nat → Prop} {Sl : List Nat}
    {chc chr : Nat → Nat} (s1 : sT Ac uc Tc chc) (s2 : stI Ac sc) (s3 : rW Ar cp b ur Tr chr) (s4 : RLV uc ur Ar ρ V) (s5 : ∀ x, W x → V x) (ha : a < uc) (hd : d < uc) (hPb : ∀ n, Pr n → b ≤ n ∧ n < ur) (hrg : reg Ar Pr Sl) (ha' : Pr a') (hd' : Pr d') (ea : rn ρ (Tc a) = Tr a') (ed : rn ρ (Tc d) = Tr d') (wa : ∀ x ∈ Tc a, lowV W x) (wd : ∀ x ∈ Tc d, lowV W x) (hp : Sl.length + 1 < 1250) (hsb : sc ≤ 1999990000) :
    (∃ n Ac' sc' Ar', 1 ≤ n ∧ n ≤ 3 ∧ mX4_match Ac (nI a) (nI d) = some (Ac', nI n) ∧ mX6_join cp 1250 Ar (nI a') (nI d') part = some (Ar', 0) ∧ off4 Ac Ac' ∧ stI Ac' sc' ∧ sc' ≤ sc + 2601 ∧ offJ Ar Ar' ∧ Ar' 183 12 = nI n ∧ Ar' 183 13 = part) ∨
    (∃ Ac' Tc' sc' Ar' Tr' chc' chr', mX4_match Ac (nI a) (nI d) = some (Ac', 0) ∧ mX6_join cp 1250 Ar (nI a') (nI d') part = some (Ar', 1) ∧ off4 Ac Ac' ∧ offJ Ar Ar' ∧ sc' ≤ sc + 2601 ∧ sT Ac' uc Tc' chc' ∧ stI Ac' sc' ∧ rW Ar' cp b ur Tr' chr' ∧ RLV uc ur Ar' ρ V ∧ Adv uc Tc ur Tr ρ V W Ar uc Tc' ur Tr' ρ V Ar' ∧ Ar' 183 12 = Ar 183 12 ∧ Ar' 183 13 = Ar 183 13 ∧ prs Ar' b ur = prs Ar b ur ∧ reg Ar' Pr Sl) := by
  have hP : ∀ n, Pr n → n < ur := fun n hn => (hPb n hn).2
  have wV : ∀ x, lowV W x → lowV V x := fun x hx => hx.imp id (s5 x)
  obtain ⟨g1, res, hU1, hc⟩ := match_ok s1 s2 hsb ha hd
  obtain ⟨g2, res2, hU2, hr⟩ := join_ok (part := part) hP 1250 Ar Tr chr a' d' 0 s3.1 hrg ha' hd' abv_0 abv_0 (by omega)
  have hres : res2 = rnR ρ res := by
    have := U_rn s4.1 g1 (fun x hx => wV x (wa x hx)) (fun x hx => wV x (wd x hx)) hU1
    rw [ea, ed] at this
    exact U_det hU2 this
  rcases hc with ⟨n, Ac', sc', e1, hn, o1, st1, hs1, m1⟩ | ⟨bs, Ac', ch', sc', e1, o1, st1, hs1, hT1, -, m1⟩
  · subst e1
    rcases hr with ⟨n2, Ar', e2, hn2, hn1, j2, f1, f2, o2⟩ | ⟨bs2, Ar', ch2, e2, -⟩
    · rw [hres] at e2
      cases e2
      exact Or.inl ⟨n, Ac', sc', Ar', hn1, hn, m1, j2, o1, st1, hs1, o2, f1, f2⟩
    · rw [hres] at e2; cases e2
  · subst e1
    rcases hr with ⟨n2, Ar', e2, -⟩ | ⟨bs2, Ar', ch2, e2, j2, hT2, hr2, o2, f1, f2, u2⟩
    · rw [hres] at e2; cases e2
    · rw [hres] at e2
      cases e2
      rw [hres] at hU2
      have ok1 : okB bs := U_okB g1 (sT_Ty s1 a ha) (sT_Ty s1 d hd) hU1
      have ok2 : okB (rnB ρ bs) := U_okB g2 (rS_Ty s3.1 a' (hP a' ha')) (rS_Ty s3.1 d' (hP d' hd')) hU2
      have inW : inB (lowV W) bs := U_inB wa wd hU1
      have inV : inB (lowV V) bs := fun q hq => ⟨wV _ (inW q hq).1, fun x hx => wV x ((inW q hq).2 x hx)⟩
      have hWq : ∀ q ∈ bs, W q.1 := fun q hq => by
        rcases (inW q hq).1 with z | z
        · have := (ok1 q hq).1; omega
        · exact z
      have e188 : ∀ m, Ar' 188 m = Ar 188 m := fun m => o2.1 188 m (by omega) (by omega) (by omega)
      have adv : Adv uc Tc ur Tr ρ V W Ar uc (fun n => apL bs (Tc n)) ur (fun n => apL (rnB ρ bs) (Tr n)) ρ V Ar' := by
        refine ⟨Nat.le_refl _, Nat.le_refl _, fun x hx => ⟨hx, rfl⟩, fun x hx hn => absurd hx hn, fun m _ => e188 m, fun c => apL bs [c], fun c => apL (rnB ρ bs) [c], fun c hc => ⟨apL_low ok1 hc, apL_low ok2 hc⟩, fun m _ => apL_sub, fun m _ => apL_sub, fun v hv => ⟨?_, fun x hx => ?_⟩, fun v hv hn => ?_, fun v hv x hx => ?_, fun m hm ho => ?_, fun x _ hx => ?_⟩
        · exact (rn_apL (r := [v]) s4.1 inV fun y hy => by rw [List.mem_singleton] at hy; subst hy; exact Or.inr hv).symm
        · rcases apL_mem hx with z | ⟨q, hq, z⟩
          · rw [List.mem_singleton] at z; subst z; exact Or.inr hv
          · exact (inV q hq).2 x z
        · refine apL_free fun q hq z => ?_
          rw [List.mem_singleton] at z
          exact hn (by rw [← z]; exact hWq q hq)
        · rcases apL_mem hx with z | ⟨q, hq, z⟩
          · rw [List.mem_singleton] at z; subst z; exact Or.inr ⟨s5 _ hv, fun _ => hv⟩
          · exact ((inW q hq).2 x z).imp id fun y => ⟨s5 _ y, fun _ => y⟩
        · refine apL_free fun q hq z => ?_
          rw [List.mem_singleton] at z
          obtain ⟨q0, hq0, rfl⟩ := List.mem_map.mp hq
          have := s4.2 q0.1 (s5 _ (hWq q0 hq0))
          have z : ρ q0.1 = 10 + m := z
          rw [z, show 10 + m - 10 = m by omega] at this
          exact ho this.2.2.2.2
        · refine apL_free fun q hq z => ?_
          rw [List.mem_singleton] at z
          obtain ⟨q0, hq0, rfl⟩ := List.mem_map.mp hq
          exact hx q0.1 (hWq q0 hq0) z
      have pe : prs Ar' b ur = prs Ar b ur := prs_off fun n _ => o2.1 185 n (by omega) (by omega) (by omega)
      have rw' : rW Ar' cp b ur (fun n => apL (rnB ρ bs) (Tr n)) ch2 := by
        refine ⟨hT2, ?_, fun n hn => ?_, s3.2.2.2⟩
        · intro n hn
          have hh := s3.2.1 n hn
          rw [o2.1 185 n (by omega) (by omega) (by omega), o2.1 187 n (by omega) (by omega) (by omega), pe]
          by_cases pn : Pr n
          · refine ⟨fun i z1 z2 z3 => ?_, fun c i j hc z1 z2 z3 z4 z5 => ?_⟩
            · exact hPb i ((hr2 n pn).1 i (by rw [o2.1 185 n (by omega) (by omega) (by omega)]; exact z1) z2 z3)
            · rcases o2.2 n with e | ⟨e4, e6⟩
              · rw [e] at z2; exact hh.2 c i j hc z1 z2 z3 z4 z5
              · rw [e4, neq (by omega) (by omega)] at z1; omega
          · rw [u2 n pn]; exact hh
        · rw [o2.1 189 n (by omega) (by omega) (by omega)]; exact s3.2.2.1 n hn
      exact Or.inr ⟨Ac', _, sc', Ar', _, _, _, m1, j2, o1, o2, hs1, hT1, st1, rw', RLV_ext s4 (Nat.le_refl _) (Nat.le_refl _) fun m _ => e188 m, adv, f1, f2, pe, hr2⟩
/-- two types made the same on both sides -/
theorem both_join {Ac : gM} {uc : Nat} {Tc : Nat → Rw} {sc : Nat} {Ar : gM} {cp b ur : Nat} {Tr : Nat → Rw} {ρ : Nat → Nat} {V W : Nat → Prop} {ar : Nat} {env : Nat → Rw} {om : Nat → Nat → Nat} {tn : Nat → Nat} {ze zl zt : Nat} {a d a' d' : Nat} {part : Int32} {Pr : Nat → Prop} {Sl : List Nat}
    (h : Sim Ac uc Tc sc Ar cp b ur Tr ρ V W ar env om tn ze zl zt) (ha : a < uc) (hd : d < uc) (hPb : ∀ n, Pr n → b ≤ n ∧ n < ur) (hrg : reg Ar Pr Sl) (ha' : Pr a') (hd' : Pr d') (ea : rn ρ (Tc a) = Tr a') (ed : rn ρ (Tc d) = Tr d') (wa : ∀ x ∈ Tc a, lowV W x) (wd : ∀ x ∈ Tc d, lowV W x) (hp : Sl.length + 1 < 1250) (hsb : sc ≤ 1999990000) :
    (∃ n Ac' sc' Ar', 1 ≤ n ∧ n ≤ 3 ∧ mX4_match Ac (nI a) (nI d) = some (Ac', nI n) ∧ mX6_join cp 1250 Ar (nI a') (nI d') part = some (Ar', 0) ∧ off4 Ac Ac' ∧ stI Ac' sc' ∧ sc' ≤ sc + 2601 ∧ offJ Ar Ar' ∧ Ar' 183 12 = nI n ∧ Ar' 183 13 = part) ∨
    (∃ Ac' Tc' sc' Ar' Tr', mX4_match Ac (nI a) (nI d) = some (Ac', 0) ∧ mX6_join cp 1250 Ar (nI a') (nI d') part = some (Ar', 1) ∧ off4 Ac Ac' ∧ offJ Ar Ar' ∧ sc' ≤ sc + 2601 ∧ Sim Ac' uc Tc' sc' Ar' cp b ur Tr' ρ V W ar env om tn ze zl zt ∧ Adv uc Tc ur Tr ρ V W Ar uc Tc' ur Tr' ρ V Ar' ∧ Ar' 183 12 = Ar 183 12 ∧ Ar' 183 13 = Ar 183 13 ∧ prs Ar' b ur = prs Ar b ur ∧ reg Ar' Pr Sl) := by
  obtain ⟨⟨chc, s1⟩, s2, ⟨chr, s3⟩, s4, s5, s6, s7, s8⟩ := id h
  rcases both_join0 (part := part) s1 s2 s3 s4 s5 ha hd hPb hrg ha' hd' ea ed wa wd hp hsb with z | ⟨Ac', Tc', sc', Ar', Tr', chc', chr', m1, j2, o1, o2, hs1, hT1, st1, rw', rl, adv, f1, f2, pe, hr2⟩
  · exact Or.inl z
  · have sm : Sim Ac' uc Tc' sc' Ar' cp b ur Tr' ρ V (fun x => V x ∧ (V x → W x)) ar env om tn ze zl zt := by
      refine Sim_adv h adv ⟨_, hT1⟩ st1 ⟨_, rw'⟩ rl (o1 138 3 (by omega) (by omega) (by omega) (by omega) (by omega) (by omega) (by omega)) (o2.1 183 9 (by omega) (by omega) (by omega)) (fun k hk => o1 139 k (by omega) (by omega) (by omega) (by omega) (by omega) (by omega) (by omega)) (fun k hk => o1 181 k (by omega) (by omega) (by omega) (by omega) (by omega) (by omega) (by omega)) (fun k hk => funext fun x => ?_) (fun k hk => o2.1 190 k (by omega) (by omega) (by omega)) (fun k hk => o2.1 191 k (by omega) (by omega) (by omega))
      have := s6.2.2
      exact o1 (141 + k) x (by omega) (by omega) (by omega) (by omega) (by omega) (by omega) (by omega)
    exact Or.inr ⟨Ac', _, sc', Ar', _, m1, j2, o1, o2, hs1, Sim_W (fun x hx => hx.2 hx.1) s5 sm, adv, f1, f2, pe, hr2⟩
/-! A NAME -/
theorem exR_sub {g : Nat → Nat} {T : Nat → Rw} {R : Rw} : exR g T R = subE (fun c => if c < 10 then [c] else if c < 100 then [100 + g (c - 10)] else T (c - 100)) R := rfl
theorem rn_sub {ρ : Nat → Nat} {e : Nat → Rw} : ∀ {r : Rw}, rn ρ (subE e r) = subE (fun c => rn ρ (e c)) r
  | [] => rfl
  | c :: r => by rw [subE_cons, rn_app, rn_sub, subE_cons]
theorem both_name {N : Nat} {Ac : gM} {uc : Nat} {Tc : Nat → Rw} {sc : Nat} {Ar : gM} {cp b ur : Nat} {Tr : Nat → Rw} {ρ : Nat → Nat} {V W : Nat → Prop} {ar : Nat} {env : Nat → Rw} {om : Nat → Nat → Nat} {tn : Nat → Nat} {ze zl zt : Nat} {k : Nat}
    (h : Sim Ac uc Tc sc Ar cp b ur Tr ρ V W ar env om tn ze zl zt) (hk : k < ar) (huc : uc + 60 ≤ 2600) (hur : ur + 60 ≤ 8000) (hp : (prs Ar b ur).length + 1 < 1250) :
    ∃ Ac' uc' Tc' rc Ar' cp' kk nn ur' Tr' rr ρ' V', mX4_build Ac (141 + k) (nI (env k).length) = some (Ac', nI rc) ∧ mX6_used N 1250 cp Ar (nI (tn k)) (nI ur) = some (Ar', (cp', kk, nn), nI rr) ∧ cost cp cp' kk nn ∧ Sim Ac' uc' Tc' sc Ar' cp' b ur' Tr' ρ' V' (fun x => V' x ∧ (V x → W x)) ar env om tn ze zl zt ∧ Adv uc Tc ur Tr ρ V W Ar uc' Tc' ur' Tr' ρ' V' Ar' ∧ rc < uc' ∧ (b ≤ rr ∧ rr < ur') ∧ rn ρ' (Tc' rc) = Tr' rr ∧ (∀ x ∈ Tc' rc, lowV (fun x => V' x ∧ (V x → W x)) x) ∧ uc' ≤ uc + 60 ∧ ur' ≤ ur + 60 ∧ (prs Ar' b ur').length ≤ (prs Ar b ur).length + 29 ∧ offB Ac Ac' ∧ offU Ar Ar' ur ur := by
  obtain ⟨⟨chc, s1⟩, s2, ⟨chr, s3⟩, s4, s5, s6, s7, s8⟩ := id h
  obtain ⟨e1, e2, e3, e4, e5, e6, e7, e8, e9, e10, e11, e12⟩ := s7 k hk
  have har := s6.2.2
  obtain ⟨R, hRe⟩ : ∃ R, R = env k := ⟨_, rfl⟩
  obtain ⟨o, ho⟩ : ∃ o, o = om k := ⟨_, rfl⟩
  rw [← hRe] at e2 e3 e6 e7 e8 e9 e10 e11 e12
  rw [← ho] at e9 e11 e12
  have hcp := okc_le s3.1.2.1
  have huu := s3.1.2.2.1
  obtain ⟨Ac', uc', Tc', chc', rc, g, b1, b2, b3, b4, b5, b6, b7, b8, b9, b10, b11⟩ := build_ok s1 (x1 := 141 + k) (by omega) e6 e7 e8 e3 (by omega)
  have unfl : ∀ c ∈ R, 100 ≤ c → ¬ ownIn Ar (rn ρ (Tc (c - 100))) := by
    intro c hc h1 ⟨v, hv, hv2⟩
    obtain ⟨x, hx, hxe⟩ := rn_mem.mp hv
    rcases e10 c hc h1 x hx with q | q
    · rw [s4.1.low x q] at hxe; omega
    · have := s4.2 x (s5 x q)
      rw [hxe, show 10 + v - 10 = v by omega] at this
      exact hv2 this.2.2.2.2
  have cod : codesU Ar ur (em ρ Tc o) R := by
    intro c hc
    have hb := e8 c hc
    unfold em
    rcases hb with q | q | q
    · exact Or.inl ⟨q, if_pos (by omega)⟩
    · refine Or.inr ⟨q.1, ?_, Or.inl ⟨o (c - 10), ?_, e11 c hc q.1 (by omega)⟩⟩
      · rw [if_neg (by omega), if_pos (by omega)]; exact Ty_leaf (if_neg (by omega))
      · rw [if_neg (by omega), if_pos (by omega)]
    · refine Or.inr ⟨by omega, ?_, Or.inr ?_⟩
      · rw [if_neg (by omega), if_neg (by omega)]; exact (rn_Ty s4.1).mpr (sT_Ty s1 _ (by omega))
      · rw [if_neg (by omega), if_neg (by omega)]; exact unfl c hc q.1
  have fr0 : freshI Ar ur ur Tr := by
    refine ⟨fun v hv => ?_, fun v v' w hv hv' hw hw2 y1 y2 => ?_⟩
    · rcases s3.2.2.1 v hv with q | ⟨w, q1, q2⟩
      · exact Or.inl q
      · exact Or.inr ⟨w, q1, q2, fun z => by omega⟩
    · rcases s3.2.2.1 v hv with q | ⟨w', q1, q2⟩
      · rw [y1, eqm1F (by omega)] at q; exact absurd q id
      · rw [y1, neq (by omega) (by omega)] at q2; omega
  obtain ⟨Ar', cp', kk, nn, ur', Tr', chr', rr, c1, c2, c3, c4, c5, c6, c7, c8, c9, c10, c11, c12, c13, c14, c15⟩ := used_ok (N := N) (S := prs Ar b ur) 1250 cp Ar ur Tr chr (tn k) 0 R (em ρ Tc o) s3 (Nat.le_refl _) s3.2.1 (fun q hq => (mem_prs.mp hq).1) e5 fr0 abv_0 (by omega) e6 e9 cod (by omega)
  obtain ⟨fr, hfr⟩ : ∃ fr : Nat → Nat, ∀ c, fr c = (Ar' 189 (o (c - 10))).toNatClampNeg := ⟨fun c => (Ar' 189 (o (c - 10))).toNatClampNeg, fun _ => rfl⟩
  have frp : ∀ c ∈ R, 10 ≤ c → c < 100 → ur ≤ fr c ∧ fr c < ur' ∧ Ar' 189 (o (c - 10)) = nI (fr c) ∧ Ar' 188 (fr c) = 0 := by
    intro c hc h1 h2
    have hmem : 10 + o (c - 10) ∈ Tr (tn k) := by
      rw [e9]; refine subE_mem.mpr ⟨c, hc, ?_⟩
      unfold em; rw [if_neg (by omega), if_pos h2]; exact List.mem_singleton.mpr rfl
    have ow := e11 c hc h1 h2
    obtain ⟨w, w1, w2, w3⟩ := c12 _ hmem ow.2
    have hw : fr c = w := by rw [hfr, w3, ncl (by omega)]
    rw [hw]
    rcases c9.1 _ ow.1 with q | ⟨w', y1, y2, y3⟩
    · rw [w3, eqm1F (by omega)] at q; exact absurd q id
    · rw [w3, neq (by omega) (by have := c3.1.2.2.1; have := okc_le c2.1; omega)] at y2
      subst y2
      exact ⟨w1, y1, w3, (y3 w1).2.2.2⟩
  have frinj : ∀ c ∈ R, ∀ d ∈ R, 10 ≤ c → c < 100 → 10 ≤ d → d < 100 → fr c = fr d → c = d := by
    intro c hc d hd h1 h2 h3 h4 e
    have p1 := frp c hc h1 h2
    have p2 := frp d hd h3 h4
    have := c9.2 _ _ (fr c) (e11 c hc h1 h2).1 (e11 d hd h3 h4).1 p1.1 (by have := c3.1.2.2.1; have := okc_le c2.1; omega) p1.2.2.1 (by rw [e]; exact p2.2.2.1)
    exact e12 c hc d hd h1 h2 h3 h4 this
  obtain ⟨ρ', hρ1, hρ2⟩ : ∃ ρ' : Nat → Nat, (∀ c ∈ R, 10 ≤ c → c < 100 → ρ' (100 + g (c - 10)) = 10 + fr c) ∧ ∀ x, (∀ c ∈ R, 10 ≤ c → c < 100 → x ≠ 100 + g (c - 10)) → ρ' x = ρ x := by
    classical
    refine ⟨fun x => if q : ∃ c, c ∈ R ∧ 10 ≤ c ∧ c < 100 ∧ x = 100 + g (c - 10) then 10 + fr (Classical.choose q) else ρ x, fun c hc h1 h2 => ?_, fun x hx => ?_⟩
    · have q : ∃ d, d ∈ R ∧ 10 ≤ d ∧ d < 100 ∧ 100 + g (c - 10) = 100 + g (d - 10) := ⟨c, hc, h1, h2, rfl⟩
      show (if q : ∃ d, d ∈ R ∧ 10 ≤ d ∧ d < 100 ∧ 100 + g (c - 10) = 100 + g (d - 10) then 10 + fr (Classical.choose q) else ρ (100 + g (c - 10))) = _
      rw [dif_pos q]
      have sp := Classical.choose_spec q
      have := b11 c hc _ sp.1 h1 h2 sp.2.1 sp.2.2.1 (by omega)
      rw [← this]
    · exact dif_neg fun ⟨c, z1, z2, z3, z4⟩ => hx c z1 z2 z3 z4
  have old : ∀ x, x < 100 + uc → ρ' x = ρ x := fun x hx => hρ2 x fun c hc h1 h2 e => by have := (b10 c hc h1 h2).1; omega
  obtain ⟨V', hV'⟩ : ∃ V' : Nat → Prop, ∀ x, V' x ↔ V x ∨ ∃ c ∈ R, 10 ≤ c ∧ c < 100 ∧ x = 100 + g (c - 10) := ⟨fun x => V x ∨ ∃ c ∈ R, 10 ≤ c ∧ c < 100 ∧ x = 100 + g (c - 10), fun _ => Iff.rfl⟩
  have e188 : ∀ m, m < ur → Ar' 188 m = Ar 188 m := fun m hm => c10 188 m (by omega) (by omega)
  have rlv : RLV uc' ur' Ar' ρ' V' := by
    have img : ∀ x, lowV V' x → (lowV V x ∧ ρ' x = ρ x ∧ ρ x < 10 + ur) ∨ ∃ c ∈ R, 10 ≤ c ∧ c < 100 ∧ x = 100 + g (c - 10) ∧ ρ' x = 10 + fr c := by
      intro x hx
      rcases hx with q | q
      · exact Or.inl ⟨Or.inl q, old x (by omega), by rw [s4.1.low x q]; omega⟩
      · rcases (hV' x).mp q with q | ⟨c, hc, h1, h2, e⟩
        · exact Or.inl ⟨Or.inr q, old x (by have := s4.2 x q; omega), (s4.2 x q).2.2.2.1⟩
        · exact Or.inr ⟨c, hc, h1, h2, e, by rw [e]; exact hρ1 c hc h1 h2⟩
    refine ⟨⟨fun c hc => by rw [old c (by omega)]; exact s4.1.low c hc, fun x hx => ?_, fun x y hx hy e => ?_⟩, fun x hx => ?_⟩
    · by_cases q : ∃ c ∈ R, 10 ≤ c ∧ c < 100 ∧ x = 100 + g (c - 10)
      · obtain ⟨c, hc, h1, h2, e⟩ := q
        rw [e, hρ1 c hc h1 h2]; omega
      · rw [hρ2 x fun c hc h1 h2 e => q ⟨c, hc, h1, h2, e⟩]; exact s4.1.high x hx
    · rcases img x hx with ⟨x1, x2, x3⟩ | ⟨c, hc, h1, h2, x4, x5⟩
      · rcases img y hy with ⟨y1, y2, y3⟩ | ⟨d, hd, h3, h4, y4, y5⟩
        · rw [x2, y2] at e; exact s4.1.inj x y x1 y1 e
        · rw [x2, y5] at e; have := (frp d hd h3 h4).1; omega
      · rcases img y hy with ⟨y1, y2, y3⟩ | ⟨d, hd, h3, h4, y4, y5⟩
        · rw [x5, y2] at e; have := (frp c hc h1 h2).1; omega
        · rw [x5, y5] at e
          have := frinj c hc d hd h1 h2 h3 h4 (by omega)
          rw [x4, y4, this]
    · rcases (hV' x).mp hx with q | ⟨c, hc, h1, h2, e⟩
      · have := s4.2 x q
        rw [old x (by omega)]
        exact ⟨this.1, by omega, this.2.2.1, by omega, by rw [e188 _ (by omega)]; exact this.2.2.2.2⟩
      · have z := frp c hc h1 h2
        have y := b10 c hc h1 h2
        rw [e, hρ1 c hc h1 h2, show 10 + fr c - 10 = fr c by omega]
        exact ⟨by omega, by omega, by omega, by omega, z.2.2.2⟩
  have adv : Adv uc Tc ur Tr ρ V W Ar uc' Tc' ur' Tr' ρ' V' Ar' := by
    refine ⟨b3, c4, fun x hx => ⟨(hV' x).mpr (Or.inl hx), old x (s4.2 x hx).2.1⟩, fun x hx hn => ?_, e188, fun c => [c], fun c => [c], fun _ _ => ⟨rfl, rfl⟩, fun m hm => by rw [b7 m hm, subE_id fun _ _ => rfl], fun m hm => by rw [c8 m hm, subE_id fun _ _ => rfl], fun v hv => ⟨by rw [rn_one, old v (s4.2 v hv).2.1], fun x hx => ?_⟩, fun _ _ _ => rfl, fun v hv x hx => ?_, fun _ _ _ => rfl, fun _ _ _ => rfl⟩
    · rcases (hV' x).mp hx with q | ⟨c, hc, h1, h2, e⟩
      · exact absurd q hn
      · rw [e, hρ1 c hc h1 h2]
        have := (frp c hc h1 h2).1; have := (b10 c hc h1 h2).1; omega
    · rw [List.mem_singleton] at hx; subst hx; exact Or.inr ((hV' x).mpr (Or.inl hv))
    · rw [List.mem_singleton] at hx; subst hx; exact Or.inr ⟨(hV' x).mpr (Or.inl (s5 x hv)), fun _ => hv⟩
  have sm : Sim Ac' uc' Tc' sc Ar' cp' b ur' Tr' ρ' V' (fun x => V' x ∧ (V x → W x)) ar env om tn ze zl zt := by
    refine Sim_adv h adv ⟨_, b2⟩ (stI_off s2 (b9 129 10 (by omega) (by omega) (by omega) (by omega) (by omega) (by omega)) (funext fun x => b9 133 x (by omega) (by omega) (by omega) (by omega) (by omega) (by omega))) ⟨_, c3⟩ rlv (b9 138 3 (by omega) (by omega) (by omega) (by omega) (by omega) (by omega)) (c10 183 9 (by omega) (by omega)) (fun k hk => b9 139 k (by omega) (by omega) (by omega) (by omega) (by omega) (by omega)) (fun k hk => b9 181 k (by omega) (by omega) (by omega) (by omega) (by omega) (by omega)) (fun k hk => funext fun x => b9 (141 + k) x (by omega) (by omega) (by omega) (by omega) (by omega) (by omega)) (fun k hk => c10 190 k (by omega) (by omega)) (fun k hk => c10 191 k (by omega) (by omega))
  have hno : ∀ c ∈ R, 100 ≤ c → ¬ ownIn Ar' (rn ρ (Tc (c - 100))) := by
    intro c hc h1 ⟨v, hv, hv2⟩
    obtain ⟨x, hx, hxe⟩ := rn_mem.mp hv
    rcases e10 c hc h1 x hx with q | q
    · rw [s4.1.low x q] at hxe; omega
    · have := s4.2 x (s5 x q)
      rw [e188 v (by omega)] at hv2
      exact unfl c hc h1 ⟨v, hv, hv2⟩
  rw [← hRe]
  refine ⟨Ac', uc', Tc', rc, Ar', cp', kk, nn, ur', Tr', rr, ρ', V', b1, c1, c2, sm, adv, b5, ⟨c6, c7⟩, ?_, fun x hx => ?_, by omega, by omega, by omega, b9, c10⟩
  · rw [b6, exR_sub, rn_sub, c11, e9, subE_comp]
    refine subE_cg fun c hc => ?_
    have hb := e8 c hc
    unfold em
    rcases hb with q | q | q
    · rw [if_pos (by omega), if_pos (by omega), subE_one, rn_one, old c (by omega), s4.1.low c (by omega)]
      exact (if_neg fun z => by omega).symm
    · rw [if_neg (by omega), if_pos (by omega), if_neg (by omega), if_pos (by omega), subE_one, rn_one, hρ1 c hc q.1 (by omega)]
      unfold inst
      rw [show 10 + o (c - 10) - 10 = o (c - 10) by omega, if_pos ⟨by omega, by rw [e188 _ (e11 c hc q.1 (by omega)).1]; exact (e11 c hc q.1 (by omega)).2⟩, hfr]
    · rw [if_neg (by omega), if_neg (by omega), if_neg (by omega), if_neg (by omega), inst_no (hno c hc q.1)]
      refine rn_cg fun x hx => old x ?_
      rcases e10 c hc q.1 x hx with z | z
      · omega
      · exact (s4.2 x (s5 x z)).2.1
  · rw [b6, exR_sub] at hx
    obtain ⟨c, hc, hx⟩ := subE_mem.mp hx
    have hb := e8 c hc
    rcases hb with q | q | q
    · rw [if_pos (by omega), List.mem_singleton] at hx; exact Or.inl (by omega)
    · rw [if_neg (by omega), if_pos (by omega), List.mem_singleton] at hx
      have y := (b10 c hc q.1 (by omega)).1
      exact Or.inr ⟨(hV' x).mpr (Or.inr ⟨c, hc, q.1, by omega, hx⟩), fun z => by have := s4.2 x z; omega⟩
    · rw [if_neg (by omega), if_neg (by omega)] at hx
      exact (e10 c hc q.1 x hx).imp id fun z => ⟨(hV' x).mpr (Or.inl (s5 x z)), fun _ => z⟩
