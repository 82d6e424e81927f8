/-! THE LAW'S LOOP -/
theorem lg_s {x : Int64} : lg_cmp x x = 0 := by
  unfold lg_cmp
  rw [if_neg (by rw [gt_iff_lt, Int64.lt_iff_toInt_lt]; omega), if_pos rfl]
def LI (j cp k n : Nat) (A : gM) : Prop := ∃ np s F sz dp res, INV A cp np s F sz dp res ∧ 100 * k + 500 ≤ cp + 19300 + 20400 * j ∧ n + 5000 ≤ 10 * cp + 34696 + 12024 * j ∧ s ≤ 400000 * j
theorem LI_next {j cp k n c cp' k' n' : Nat} {A2 : gM} {s np' s' : Nat} {F' : Nat → Nat → Int32} {sz' dp' : Nat → Nat} {res' : Nat → (Nat × Nat) ⊕ Rw} (hk : 100 * k + 500 ≤ cp + 19300 + 20400 * j) (hn : n + 5000 ≤ 10 * cp + 34696 + 12024 * j) (hs : s ≤ 400000 * j) (hc : c ≤ 4) (cb : costB cp cp' k' n' 200 12000) (hI : INV A2 cp' np' s' F' sz' dp' res') (hs' : s' ≤ s + 400000) : LI (j + 1) cp' (k + c + k') (n + 6 * c + n') A2 := by
  obtain ⟨c1, c2, c3, c4⟩ := cb
  exact ⟨np', s', F', sz', dp', res', hI, by omega, by omega, by omega⟩
theorem LI_lim {j cp k n : Nat} (hc : okc cp) (hj : j ≤ 513) (hk : 100 * k + 500 ≤ cp + 19300 + 20400 * j) (hn : n + 5000 ≤ 10 * cp + 34696 + 12024 * j) : k ≤ 601024 ∧ n ≤ 7293034 := by
  have := okc_le hc
  omega
theorem thrown_k {cp : Nat} {A : gM} : mX6_thrown cp A = some (A, A 183 0) := by
  unfold mX6_thrown mX6_thrown_b0
  rfl
section LW
variable {xs : Nat → Int32} {L : Nat} {K : Nat → Nat → Nat → gM → Int32 → Option Unit} {cp k n j : Nat} {A : gM} {x4 : Int32}
theorem law_plain (hend : ¬ (Int32.ofNat L) - 4 < x4) (hg0 : g_in x4 L = true) (hg1 : g_in (x4 + 1) L = true) (hg2 : g_in (x4 + 2) L = true) (hg3 : g_in (x4 + 3) L = true) (hj : j < 513) (hL : LI j cp k n A) (hK : ∀ cp' k' n' A', LI (j + 1) cp' k' n' A' → K cp' k' n' A' (x4 + 4) = some ()) (hc : (xs x4.toNatClampNeg) &&& 31 = 0) : mL_law_b23 xs L K cp k n A x4 = some () := by
  obtain ⟨np, s, F, sz, dp, res, hI, bk, bn, bs⟩ := hL
  have hcp := okc_le hI.2.2.2.1
  obtain ⟨A1, kk, e1, A2, cp', k', n', r, e2, e3, e4, cb, np', s', F', sz', dp', res', hI', hs'⟩ := k_plain hI (by omega) (xs (x4 + 1).toNatClampNeg)
  have hLI := LI_next (c := 2) bk bn bs (by omega) cb hI' hs'
  have lim : (k + 2) + k' ≤ 601024 ∧ (n + 6 * 2) + n' ≤ 7293034 := by
    obtain ⟨_, _, _, _, _, _, hI2, b1, b2, _⟩ := hLI
    exact LI_lim hI2.2.2.2.1 (by omega) b1 b2
  have fin := hK _ _ _ _ hLI
  unfold mL_law_b23
  rw [if_neg hend, if_pos hg0, if_pos hc, if_pos hg1, bnd e1]
  dsimp only
  rw [if_pos ⟨by omega, by omega⟩, if_pos hg1, bnd e2]
  dsimp only
  rw [if_pos lim, bnd thrown_k]
  dsimp only
  rw [if_pos lim, if_pos e3]
  by_cases z : kk = 0
  · rw [if_pos z, if_pos (by decide), cl0, if_pos (by rw [e4 z]; exact lg_s)]
    unfold mL_law_b185 mL_law_b1322
    rw [gle]
    exact fin
  · rw [if_neg z]
    unfold mL_law_b185 mL_law_b1322
    rw [gle]
    exact fin
theorem law_name (hend : ¬ (Int32.ofNat L) - 4 < x4) (hg0 : g_in x4 L = true) (hg1 : g_in (x4 + 1) L = true) (hg2 : g_in (x4 + 2) L = true) (hg3 : g_in (x4 + 3) L = true) (hj : j < 513) (hL : LI j cp k n A) (hK : ∀ cp' k' n' A', LI (j + 1) cp' k' n' A' → K cp' k' n' A' (x4 + 4) = some ()) (hc : (xs x4.toNatClampNeg) &&& 31 = 1) : mL_law_b23 xs L K cp k n A x4 = some () := by
  obtain ⟨np, s, F, sz, dp, res, hI, bk, bn, bs⟩ := hL
  have hcp := okc_le hI.2.2.2.1
  obtain ⟨A1, kk, e1, A2, cp', k', n', r, e2, e3, e4, cb, np', s', F', sz', dp', res', hI', hs'⟩ := k_name hI (by omega) (xs (x4 + 1).toNatClampNeg)
  have hLI := LI_next (c := 2) bk bn bs (by omega) cb hI' hs'
  have lim : (k + 2) + k' ≤ 601024 ∧ (n + 6 * 2) + n' ≤ 7293034 := by
    obtain ⟨_, _, _, _, _, _, hI2, b1, b2, _⟩ := hLI
    exact LI_lim hI2.2.2.2.1 (by omega) b1 b2
  have fin := hK _ _ _ _ hLI
  unfold mL_law_b23
  rw [if_neg hend, if_pos hg0, if_neg (by rw [hc]; decide), if_pos hc, if_pos hg1, bnd e1]
  dsimp only
  rw [if_pos ⟨by omega, by omega⟩, if_pos hg1, bnd e2]
  dsimp only
  rw [if_pos lim, bnd thrown_k]
  dsimp only
  rw [if_pos lim, if_pos e3]
  by_cases z : kk = 0
  · rw [if_pos z, if_pos (by decide), cl0, if_pos (by rw [e4 z]; exact lg_s)]
    unfold mL_law_b241 mL_law_b1322
    rw [gle]
    exact fin
  · rw [if_neg z]
    unfold mL_law_b241 mL_law_b1322
    rw [gle]
    exact fin
theorem law_wheel (hend : ¬ (Int32.ofNat L) - 4 < x4) (hg0 : g_in x4 L = true) (hg1 : g_in (x4 + 1) L = true) (hg2 : g_in (x4 + 2) L = true) (hg3 : g_in (x4 + 3) L = true) (hj : j < 513) (hL : LI j cp k n A) (hK : ∀ cp' k' n' A', LI (j + 1) cp' k' n' A' → K cp' k' n' A' (x4 + 4) = some ()) (hc : (xs x4.toNatClampNeg) &&& 31 = 2) : mL_law_b23 xs L K cp k n A x4 = some () := by
  obtain ⟨np, s, F, sz, dp, res, hI, bk, bn, bs⟩ := hL
  have hcp := okc_le hI.2.2.2.1
  obtain ⟨A1, kk, e1, A2, cp', k', n', r, e2, e3, e4, cb, np', s', F', sz', dp', res', hI', hs'⟩ := k_wheel hI (by omega) (xs (x4 + 1).toNatClampNeg) (xs (x4 + 2).toNatClampNeg)
  have hLI := LI_next (c := 3) bk bn bs (by omega) cb hI' hs'
  have lim : (k + 3) + k' ≤ 601024 ∧ (n + 6 * 3) + n' ≤ 7293034 := by
    obtain ⟨_, _, _, _, _, _, hI2, b1, b2, _⟩ := hLI
    exact LI_lim hI2.2.2.2.1 (by omega) b1 b2
  have fin := hK _ _ _ _ hLI
  unfold mL_law_b23
  rw [if_neg hend, if_pos hg0, if_neg (by rw [hc]; decide), if_neg (by rw [hc]; decide), if_pos hc, if_pos hg1, if_pos hg2, bnd e1]
  dsimp only
  rw [if_pos ⟨by omega, by omega⟩, if_pos hg1, if_pos hg2, bnd e2]
  dsimp only
  rw [if_pos lim, bnd thrown_k]
  dsimp only
  rw [if_pos lim, if_pos e3]
  by_cases z : kk = 0
  · rw [if_pos z, if_pos (by decide), cl0, if_pos (by rw [e4 z]; exact lg_s)]
    unfold mL_law_b309 mL_law_b1322
    rw [gle]
    exact fin
  · rw [if_neg z]
    unfold mL_law_b309 mL_law_b1322
    rw [gle]
    exact fin
theorem law_turn (hend : ¬ (Int32.ofNat L) - 4 < x4) (hg0 : g_in x4 L = true) (hg1 : g_in (x4 + 1) L = true) (hg2 : g_in (x4 + 2) L = true) (hg3 : g_in (x4 + 3) L = true) (hj : j < 513) (hL : LI j cp k n A) (hK : ∀ cp' k' n' A', LI (j + 1) cp' k' n' A' → K cp' k' n' A' (x4 + 4) = some ()) (hc : (xs x4.toNatClampNeg) &&& 31 = 3) : mL_law_b23 xs L K cp k n A x4 = some () := by
  obtain ⟨np, s, F, sz, dp, res, hI, bk, bn, bs⟩ := hL
  have hcp := okc_le hI.2.2.2.1
  obtain ⟨A1, kk, e1, A2, cp', k', n', r, e2, e3, e4, cb, np', s', F', sz', dp', res', hI', hs'⟩ := k_turn hI (by omega) (xs (x4 + 1).toNatClampNeg) (xs (x4 + 2).toNatClampNeg)
  have hLI := LI_next (c := 3) bk bn bs (by omega) cb hI' hs'
  have lim : (k + 3) + k' ≤ 601024 ∧ (n + 6 * 3) + n' ≤ 7293034 := by
    obtain ⟨_, _, _, _, _, _, hI2, b1, b2, _⟩ := hLI
    exact LI_lim hI2.2.2.2.1 (by omega) b1 b2
  have fin := hK _ _ _ _ hLI
  unfold mL_law_b23
  rw [if_neg hend, if_pos hg0, if_neg (by rw [hc]; decide), if_neg (by rw [hc]; decide), if_neg (by rw [hc]; decide), if_pos hc, if_pos hg1, if_pos hg2, bnd e1]
  dsimp only
  rw [if_pos ⟨by omega, by omega⟩, if_pos hg1, if_pos hg2, bnd e2]
  dsimp only
  rw [if_pos lim, bnd thrown_k]
  dsimp only
  rw [if_pos lim, if_pos e3]
  by_cases z : kk = 0
  · rw [if_pos z, if_pos (by decide), cl0, if_pos (by rw [e4 z]; exact lg_s)]
    unfold mL_law_b377 mL_law_b1322
    rw [gle]
    exact fin
  · rw [if_neg z]
    unfold mL_law_b377 mL_law_b1322
    rw [gle]
    exact fin
theorem law_tell (hend : ¬ (Int32.ofNat L) - 4 < x4) (hg0 : g_in x4 L = true) (hg1 : g_in (x4 + 1) L = true) (hg2 : g_in (x4 + 2) L = true) (hg3 : g_in (x4 + 3) L = true) (hj : j < 513) (hL : LI j cp k n A) (hK : ∀ cp' k' n' A', LI (j + 1) cp' k' n' A' → K cp' k' n' A' (x4 + 4) = some ()) (hc : (xs x4.toNatClampNeg) &&& 31 = 4) : mL_law_b23 xs L K cp k n A x4 = some () := by
  obtain ⟨np, s, F, sz, dp, res, hI, bk, bn, bs⟩ := hL
  have hcp := okc_le hI.2.2.2.1
  obtain ⟨A1, kk, e1, A2, cp', k', n', r, e2, e3, e4, cb, np', s', F', sz', dp', res', hI', hs'⟩ := k_tell hI (by omega) (xs (x4 + 1).toNatClampNeg) (xs (x4 + 2).toNatClampNeg) (xs (x4 + 3).toNatClampNeg)
  have hLI := LI_next (c := 4) bk bn bs (by omega) cb hI' hs'
  have lim : (k + 4) + k' ≤ 601024 ∧ (n + 6 * 4) + n' ≤ 7293034 := by
    obtain ⟨_, _, _, _, _, _, hI2, b1, b2, _⟩ := hLI
    exact LI_lim hI2.2.2.2.1 (by omega) b1 b2
  have fin := hK _ _ _ _ hLI
  unfold mL_law_b23
  rw [if_neg hend, if_pos hg0, if_neg (by rw [hc]; decide), if_neg (by rw [hc]; decide), if_neg (by rw [hc]; decide), if_neg (by rw [hc]; decide), if_pos hc, if_pos hg1, if_pos hg2, if_pos hg3, bnd e1]
  dsimp only
  rw [if_pos ⟨by omega, by omega⟩, if_pos hg1, if_pos hg2, if_pos hg3, bnd e2]
  dsimp only
  rw [if_pos lim, bnd thrown_k]
  dsimp only
  rw [if_pos lim, if_pos e3]
  by_cases z : kk = 0
  · rw [if_pos z, if_pos (by decide), cl0, if_pos (by rw [e4 z]; exact lg_s)]
    unfold mL_law_b457 mL_law_b1322
    rw [gle]
    exact fin
  · rw [if_neg z]
    unfold mL_law_b457 mL_law_b1322
    rw [gle]
    exact fin
theorem law_axle (hend : ¬ (Int32.ofNat L) - 4 < x4) (hg0 : g_in x4 L = true) (hg1 : g_in (x4 + 1) L = true) (hg2 : g_in (x4 + 2) L = true) (hg3 : g_in (x4 + 3) L = true) (hj : j < 513) (hL : LI j cp k n A) (hK : ∀ cp' k' n' A', LI (j + 1) cp' k' n' A' → K cp' k' n' A' (x4 + 4) = some ()) (hc : (xs x4.toNatClampNeg) &&& 31 = 5) : mL_law_b23 xs L K cp k n A x4 = some () := by
  obtain ⟨np, s, F, sz, dp, res, hI, bk, bn, bs⟩ := hL
  have hcp := okc_le hI.2.2.2.1
  obtain ⟨A1, kk, e1, A2, cp', k', n', r, e2, e3, e4, cb, np', s', F', sz', dp', res', hI', hs'⟩ := k_axle hI (by omega) (xs (x4 + 1).toNatClampNeg) (xs (x4 + 2).toNatClampNeg)
  have hLI := LI_next (c := 3) bk bn bs (by omega) cb hI' hs'
  have lim : (k + 3) + k' ≤ 601024 ∧ (n + 6 * 3) + n' ≤ 7293034 := by
    obtain ⟨_, _, _, _, _, _, hI2, b1, b2, _⟩ := hLI
    exact LI_lim hI2.2.2.2.1 (by omega) b1 b2
  have fin := hK _ _ _ _ hLI
  unfold mL_law_b23
  rw [if_neg hend, if_pos hg0, if_neg (by rw [hc]; decide), if_neg (by rw [hc]; decide), if_neg (by rw [hc]; decide), if_neg (by rw [hc]; decide), if_neg (by rw [hc]; decide), if_pos hc, if_pos hg1, if_pos hg2, bnd e1]
  dsimp only
  rw [if_pos ⟨by omega, by omega⟩, if_pos hg1, if_pos hg2, bnd e2]
  dsimp only
  rw [if_pos lim, bnd thrown_k]
  dsimp only
  rw [if_pos lim, if_pos e3]
  by_cases z : kk = 0
  · rw [if_pos z, if_pos (by decide), cl0, if_pos (by rw [e4 z]; exact lg_s)]
    unfold mL_law_b525 mL_law_b1322
    rw [gle]
    exact fin
  · rw [if_neg z]
    unfold mL_law_b525 mL_law_b1322
    rw [gle]
    exact fin
theorem law_end (hend : ¬ (Int32.ofNat L) - 4 < x4) (hg0 : g_in x4 L = true) (hg1 : g_in (x4 + 1) L = true) (hg2 : g_in (x4 + 2) L = true) (hg3 : g_in (x4 + 3) L = true) (hj : j < 513) (hL : LI j cp k n A) (hK : ∀ cp' k' n' A', LI (j + 1) cp' k' n' A' → K cp' k' n' A' (x4 + 4) = some ()) (hc : (xs x4.toNatClampNeg) &&& 31 = 6) : mL_law_b23 xs L K cp k n A x4 = some () := by
  obtain ⟨np, s, F, sz, dp, res, hI, bk, bn, bs⟩ := hL
  have hcp := okc_le hI.2.2.2.1
  obtain ⟨A1, kk, e1, A2, cp', k', n', r, e2, e3, e4, cb, np', s', F', sz', dp', res', hI', hs'⟩ := k_end hI (by omega) (xs (x4 + 1).toNatClampNeg) (xs (x4 + 2).toNatClampNeg)
  have hLI := LI_next (c := 3) bk bn bs (by omega) cb hI' hs'
  have lim : (k + 3) + k' ≤ 601024 ∧ (n + 6 * 3) + n' ≤ 7293034 := by
    obtain ⟨_, _, _, _, _, _, hI2, b1, b2, _⟩ := hLI
    exact LI_lim hI2.2.2.2.1 (by omega) b1 b2
  have fin := hK _ _ _ _ hLI
  unfold mL_law_b23
  rw [if_neg hend, if_pos hg0, if_neg (by rw [hc]; decide), if_neg (by rw [hc]; decide), if_neg (by rw [hc]; decide), if_neg (by rw [hc]; decide), if_neg (by rw [hc]; decide), if_neg (by rw [hc]; decide), if_pos hc, if_pos hg1, if_pos hg2, bnd e1]
  dsimp only
  rw [if_pos ⟨by omega, by omega⟩, if_pos hg1, if_pos hg2, bnd e2]
  dsimp only
  rw [if_pos lim, bnd thrown_k]
  dsimp only
  rw [if_pos lim, if_pos e3]
  by_cases z : kk = 0
  · rw [if_pos z, if_pos (by decide), cl0, if_pos (by rw [e4 z]; exact lg_s)]
    unfold mL_law_b593 mL_law_b1322
    rw [gle]
    exact fin
  · rw [if_neg z]
    unfold mL_law_b593 mL_law_b1322
    rw [gle]
    exact fin
theorem law_either (hend : ¬ (Int32.ofNat L) - 4 < x4) (hg0 : g_in x4 L = true) (hg1 : g_in (x4 + 1) L = true) (hg2 : g_in (x4 + 2) L = true) (hg3 : g_in (x4 + 3) L = true) (hj : j < 513) (hL : LI j cp k n A) (hK : ∀ cp' k' n' A', LI (j + 1) cp' k' n' A' → K cp' k' n' A' (x4 + 4) = some ()) (hc : (xs x4.toNatClampNeg) &&& 31 = 7) : mL_law_b23 xs L K cp k n A x4 = some () := by
  obtain ⟨np, s, F, sz, dp, res, hI, bk, bn, bs⟩ := hL
  have hcp := okc_le hI.2.2.2.1
  obtain ⟨A1, kk, e1, A2, cp', k', n', r, e2, e3, e4, cb, np', s', F', sz', dp', res', hI', hs'⟩ := k_either hI (by omega) (xs (x4 + 1).toNatClampNeg) (xs (x4 + 2).toNatClampNeg) (xs (x4 + 3).toNatClampNeg)
  have hLI := LI_next (c := 4) bk bn bs (by omega) cb hI' hs'
  have lim : (k + 4) + k' ≤ 601024 ∧ (n + 6 * 4) + n' ≤ 7293034 := by
    obtain ⟨_, _, _, _, _, _, hI2, b1, b2, _⟩ := hLI
    exact LI_lim hI2.2.2.2.1 (by omega) b1 b2
  have fin := hK _ _ _ _ hLI
  unfold mL_law_b23
  rw [if_neg hend, if_pos hg0, if_neg (by rw [hc]; decide), if_neg (by rw [hc]; decide), if_neg (by rw [hc]; decide), if_neg (by rw [hc]; decide), if_neg (by rw [hc]; decide), if_neg (by rw [hc]; decide), if_neg (by rw [hc]; decide), if_pos hc, if_pos hg1, if_pos hg2, if_pos hg3, bnd e1]
  dsimp only
  rw [if_pos ⟨by omega, by omega⟩, if_pos hg1, if_pos hg2, if_pos hg3, bnd e2]
  dsimp only
  rw [if_pos lim, bnd thrown_k]
  dsimp only
  rw [if_pos lim, if_pos e3]
  by_cases z : kk = 0
  · rw [if_pos z, if_pos (by decide), cl0, if_pos (by rw [e4 z]; exact lg_s)]
    unfold mL_law_b673 mL_law_b1322
    rw [gle]
    exact fin
  · rw [if_neg z]
    unfold mL_law_b673 mL_law_b1322
    rw [gle]
    exact fin
theorem law_undo (hend : ¬ (Int32.ofNat L) - 4 < x4) (hg0 : g_in x4 L = true) (hg1 : g_in (x4 + 1) L = true) (hg2 : g_in (x4 + 2) L = true) (hg3 : g_in (x4 + 3) L = true) (hj : j < 513) (hL : LI j cp k n A) (hK : ∀ cp' k' n' A', LI (j + 1) cp' k' n' A' → K cp' k' n' A' (x4 + 4) = some ()) (hc : (xs x4.toNatClampNeg) &&& 31 = 8) : mL_law_b23 xs L K cp k n A x4 = some () := by
  obtain ⟨np, s, F, sz, dp, res, hI, bk, bn, bs⟩ := hL
  have hcp := okc_le hI.2.2.2.1
  obtain ⟨A1, kk, e1, A2, cp', k', n', r, e2, e3, e4, cb, np', s', F', sz', dp', res', hI', hs'⟩ := k_undo hI
  obtain ⟨q, t2, t3⟩ : ∃ q, mX6_undo cp A1 = some q ∧ some (q.1, (cp, 0, 0), q.2) = some (A2, (cp', k', n'), r) := by
    dsimp only at e2
    cases hq : mX6_undo cp A1 with
    | none => rw [hq] at e2; cases e2
    | some q => rw [hq] at e2; exact ⟨q, rfl, e2⟩
  have t4 := Option.some.inj t3
  have h1 : q.1 = A2 := congrArg (fun z => z.1) t4
  have h2 : q.2 = r := congrArg (fun z => z.2.2) t4
  have h3 : cp = cp' := congrArg (fun z => z.2.1.1) t4
  have h4 : 0 = k' := congrArg (fun z => z.2.1.2.1) t4
  have h5 : 0 = n' := congrArg (fun z => z.2.1.2.2) t4
  subst h3
  subst h4
  subst h5
  have t5 : mX6_undo cp A1 = some (A2, r) := by rw [t2, ← h1, ← h2]
  have hLI := LI_next (c := 1) bk bn bs (by omega) cb hI' hs'
  have lim : (k + 1) + 0 ≤ 601024 ∧ (n + 6 * 1) + 0 ≤ 7293034 := by
    obtain ⟨_, _, _, _, _, _, hI2, b1, b2, _⟩ := hLI
    exact LI_lim hI2.2.2.2.1 (by omega) b1 b2
  have fin := hK _ _ _ _ hLI
  unfold mL_law_b23
  rw [if_neg hend, if_pos hg0, if_neg (by rw [hc]; decide), if_neg (by rw [hc]; decide), if_neg (by rw [hc]; decide), if_neg (by rw [hc]; decide), if_neg (by rw [hc]; decide), if_neg (by rw [hc]; decide), if_neg (by rw [hc]; decide), if_neg (by rw [hc]; decide), if_pos hc, bnd e1]
  dsimp only
  rw [if_pos ⟨by omega, by omega⟩, bnd t5]
  dsimp only
  rw [if_pos ⟨by omega, by omega⟩, bnd thrown_k]
  dsimp only
  rw [if_pos ⟨by omega, by omega⟩, if_pos e3]
  by_cases z : kk = 0
  · rw [if_pos z, if_pos (by decide), cl0, if_pos (by rw [e4 z]; exact lg_s)]
    unfold mL_law_b717 mL_law_b1322
    rw [gle]
    exact fin
  · rw [if_neg z]
    unfold mL_law_b717 mL_law_b1322
    rw [gle]
    exact fin
theorem law_part (hend : ¬ (Int32.ofNat L) - 4 < x4) (hg0 : g_in x4 L = true) (hg1 : g_in (x4 + 1) L = true) (hg2 : g_in (x4 + 2) L = true) (hg3 : g_in (x4 + 3) L = true) (hj : j < 513) (hL : LI j cp k n A) (hK : ∀ cp' k' n' A', LI (j + 1) cp' k' n' A' → K cp' k' n' A' (x4 + 4) = some ()) (hc : (xs x4.toNatClampNeg) &&& 31 = 9) : mL_law_b23 xs L K cp k n A x4 = some () := by
  obtain ⟨np, s, F, sz, dp, res, hI, bk, bn, bs⟩ := hL
  have hcp := okc_le hI.2.2.2.1
  obtain ⟨A1, kk, e1, A2, cp', k', n', r, e2, e3, e4, cb, np', s', F', sz', dp', res', hI', hs'⟩ := k_part hI (xs (x4 + 1).toNatClampNeg) (xs (x4 + 2).toNatClampNeg)
  obtain ⟨q, t2, t3⟩ : ∃ q, mX6_part cp A1 (xs (x4 + 1).toNatClampNeg) (xs (x4 + 2).toNatClampNeg) = some q ∧ some (q.1, (cp, 0, 0), q.2) = some (A2, (cp', k', n'), r) := by
    dsimp only at e2
    cases hq : mX6_part cp A1 (xs (x4 + 1).toNatClampNeg) (xs (x4 + 2).toNatClampNeg) with
    | none => rw [hq] at e2; cases e2
    | some q => rw [hq] at e2; exact ⟨q, rfl, e2⟩
  have t4 := Option.some.inj t3
  have h1 : q.1 = A2 := congrArg (fun z => z.1) t4
  have h2 : q.2 = r := congrArg (fun z => z.2.2) t4
  have h3 : cp = cp' := congrArg (fun z => z.2.1.1) t4
  have h4 : 0 = k' := congrArg (fun z => z.2.1.2.1) t4
  have h5 : 0 = n' := congrArg (fun z => z.2.1.2.2) t4
  subst h3
  subst h4
  subst h5
  have t5 : mX6_part cp A1 (xs (x4 + 1).toNatClampNeg) (xs (x4 + 2).toNatClampNeg) = some (A2, r) := by rw [t2, ← h1, ← h2]
  have hLI := LI_next (c := 2) bk bn bs (by omega) cb hI' hs'
  have lim : (k + 2) + 0 ≤ 601024 ∧ (n + 6 * 2) + 0 ≤ 7293034 := by
    obtain ⟨_, _, _, _, _, _, hI2, b1, b2, _⟩ := hLI
    exact LI_lim hI2.2.2.2.1 (by omega) b1 b2
  have fin := hK _ _ _ _ hLI
  unfold mL_law_b23
  rw [if_neg hend, if_pos hg0, if_neg (by rw [hc]; decide), if_neg (by rw [hc]; decide), if_neg (by rw [hc]; decide), if_neg (by rw [hc]; decide), if_neg (by rw [hc]; decide), if_neg (by rw [hc]; decide), if_neg (by rw [hc]; decide), if_neg (by rw [hc]; decide), if_neg (by rw [hc]; decide), if_pos hc, if_pos hg1, if_pos hg2, bnd e1]
  dsimp only
  rw [if_pos ⟨by omega, by omega⟩, if_pos hg1, if_pos hg2, bnd t5]
  dsimp only
  rw [if_pos ⟨by omega, by omega⟩, bnd thrown_k]
  dsimp only
  rw [if_pos ⟨by omega, by omega⟩, if_pos e3]
  by_cases z : kk = 0
  · rw [if_pos z, if_pos (by decide), cl0, if_pos (by rw [e4 z]; exact lg_s)]
    unfold mL_law_b785 mL_law_b1322
    rw [gle]
    exact fin
  · rw [if_neg z]
    unfold mL_law_b785 mL_law_b1322
    rw [gle]
    exact fin
theorem law_type (hend : ¬ (Int32.ofNat L) - 4 < x4) (hg0 : g_in x4 L = true) (hg1 : g_in (x4 + 1) L = true) (hg2 : g_in (x4 + 2) L = true) (hg3 : g_in (x4 + 3) L = true) (hj : j < 513) (hL : LI j cp k n A) (hK : ∀ cp' k' n' A', LI (j + 1) cp' k' n' A' → K cp' k' n' A' (x4 + 4) = some ()) (hc : (xs x4.toNatClampNeg) &&& 31 = 10) : mL_law_b23 xs L K cp k n A x4 = some () := by
  obtain ⟨np, s, F, sz, dp, res, hI, bk, bn, bs⟩ := hL
  have hcp := okc_le hI.2.2.2.1
  obtain ⟨A1, kk, e1, A2, cp', k', n', r, e2, e3, e4, cb, np', s', F', sz', dp', res', hI', hs'⟩ := k_type hI (xs (x4 + 1).toNatClampNeg) (xs (x4 + 2).toNatClampNeg)
  have hLI := LI_next (c := 2) bk bn bs (by omega) cb hI' hs'
  have lim : (k + 2) + k' ≤ 601024 ∧ (n + 6 * 2) + n' ≤ 7293034 := by
    obtain ⟨_, _, _, _, _, _, hI2, b1, b2, _⟩ := hLI
    exact LI_lim hI2.2.2.2.1 (by omega) b1 b2
  have fin := hK _ _ _ _ hLI
  unfold mL_law_b23
  rw [if_neg hend, if_pos hg0, if_neg (by rw [hc]; decide), if_neg (by rw [hc]; decide), if_neg (by rw [hc]; decide), if_neg (by rw [hc]; decide), if_neg (by rw [hc]; decide), if_neg (by rw [hc]; decide), if_neg (by rw [hc]; decide), if_neg (by rw [hc]; decide), if_neg (by rw [hc]; decide), if_neg (by rw [hc]; decide), if_pos hc, if_pos hg1, if_pos hg2, bnd e1]
  dsimp only
  rw [if_pos ⟨by omega, by omega⟩, if_pos hg1, if_pos hg2, bnd e2]
  dsimp only
  rw [if_pos lim, bnd thrown_k]
  dsimp only
  rw [if_pos lim, if_pos e3]
  by_cases z : kk = 0
  · rw [if_pos z, if_pos (by decide), cl0, if_pos (by rw [e4 z]; exact lg_s)]
    unfold mL_law_b853 mL_law_b1322
    rw [gle]
    exact fin
  · rw [if_neg z]
    unfold mL_law_b853 mL_law_b1322
    rw [gle]
    exact fin
theorem law_code (hend : ¬ (Int32.ofNat L) - 4 < x4) (hg0 : g_in x4 L = true) (hg1 : g_in (x4 + 1) L = true) (hg2 : g_in (x4 + 2) L = true) (hg3 : g_in (x4 + 3) L = true) (hj : j < 513) (hL : LI j cp k n A) (hK : ∀ cp' k' n' A', LI (j + 1) cp' k' n' A' → K cp' k' n' A' (x4 + 4) = some ()) (hc : (xs x4.toNatClampNeg) &&& 31 = 11) : mL_law_b23 xs L K cp k n A x4 = some () := by
  obtain ⟨np, s, F, sz, dp, res, hI, bk, bn, bs⟩ := hL
  have hcp := okc_le hI.2.2.2.1
  obtain ⟨A1, kk, e1, A2, cp', k', n', r, e2, e3, e4, cb, np', s', F', sz', dp', res', hI', hs'⟩ := k_code hI (xs (x4 + 1).toNatClampNeg) (xs (x4 + 2).toNatClampNeg)
  have hLI := LI_next (c := 2) bk bn bs (by omega) cb hI' hs'
  have lim : (k + 2) + k' ≤ 601024 ∧ (n + 6 * 2) + n' ≤ 7293034 := by
    obtain ⟨_, _, _, _, _, _, hI2, b1, b2, _⟩ := hLI
    exact LI_lim hI2.2.2.2.1 (by omega) b1 b2
  have fin := hK _ _ _ _ hLI
  unfold mL_law_b23
  rw [if_neg hend, if_pos hg0, if_neg (by rw [hc]; decide), if_neg (by rw [hc]; decide), if_neg (by rw [hc]; decide), if_neg (by rw [hc]; decide), if_neg (by rw [hc]; decide), if_neg (by rw [hc]; decide), if_neg (by rw [hc]; decide), if_neg (by rw [hc]; decide), if_neg (by rw [hc]; decide), if_neg (by rw [hc]; decide), if_neg (by rw [hc]; decide), if_pos hc, if_pos hg1, if_pos hg2, bnd e1]
  dsimp only
  rw [if_pos ⟨by omega, by omega⟩, if_pos hg1, if_pos hg2, bnd e2]
  dsimp only
  rw [if_pos lim, bnd thrown_k]
  dsimp only
  rw [if_pos lim, if_pos e3]
  by_cases z : kk = 0
  · rw [if_pos z, if_pos (by decide), cl0, if_pos (by rw [e4 z]; exact lg_s)]
    unfold mL_law_b921 mL_law_b1322
    rw [gle]
    exact fin
  · rw [if_neg z]
    unfold mL_law_b921 mL_law_b1322
    rw [gle]
    exact fin
theorem law_count (hend : ¬ (Int32.ofNat L) - 4 < x4) (hg0 : g_in x4 L = true) (hg1 : g_in (x4 + 1) L = true) (hg2 : g_in (x4 + 2) L = true) (hg3 : g_in (x4 + 3) L = true) (hj : j < 513) (hL : LI j cp k n A) (hK : ∀ cp' k' n' A', LI (j + 1) cp' k' n' A' → K cp' k' n' A' (x4 + 4) = some ()) (hc : (xs x4.toNatClampNeg) &&& 31 = 12) : mL_law_b23 xs L K cp k n A x4 = some () := by
  obtain ⟨np, s, F, sz, dp, res, hI, bk, bn, bs⟩ := hL
  have hcp := okc_le hI.2.2.2.1
  obtain ⟨A1, kk, e1, A2, cp', k', n', r, e2, e3, e4, cb, np', s', F', sz', dp', res', hI', hs'⟩ := k_count hI (xs (x4 + 1).toNatClampNeg)
  have hLI := LI_next (c := 1) bk bn bs (by omega) cb hI' hs'
  have lim : (k + 1) + k' ≤ 601024 ∧ (n + 6 * 1) + n' ≤ 7293034 := by
    obtain ⟨_, _, _, _, _, _, hI2, b1, b2, _⟩ := hLI
    exact LI_lim hI2.2.2.2.1 (by omega) b1 b2
  have fin := hK _ _ _ _ hLI
  unfold mL_law_b23
  rw [if_neg hend, if_pos hg0, if_neg (by rw [hc]; decide), if_neg (by rw [hc]; decide), if_neg (by rw [hc]; decide), if_neg (by rw [hc]; decide), if_neg (by rw [hc]; decide), if_neg (by rw [hc]; decide), if_neg (by rw [hc]; decide), if_neg (by rw [hc]; decide), if_neg (by rw [hc]; decide), if_neg (by rw [hc]; decide), if_neg (by rw [hc]; decide), if_neg (by rw [hc]; decide), if_pos hc, if_pos hg1, bnd e1]
  dsimp only
  rw [if_pos ⟨by omega, by omega⟩, if_pos hg1, bnd e2]
  dsimp only
  rw [if_pos lim, bnd thrown_k]
  dsimp only
  rw [if_pos lim, if_pos e3]
  by_cases z : kk = 0
  · rw [if_pos z, if_pos (by decide), cl0, if_pos (by rw [e4 z]; exact lg_s)]
    unfold mL_law_b977 mL_law_b1322
    rw [gle]
    exact fin
  · rw [if_neg z]
    unfold mL_law_b977 mL_law_b1322
    rw [gle]
    exact fin
theorem law_same (hend : ¬ (Int32.ofNat L) - 4 < x4) (hg0 : g_in x4 L = true) (hg1 : g_in (x4 + 1) L = true) (hg2 : g_in (x4 + 2) L = true) (hg3 : g_in (x4 + 3) L = true) (hj : j < 513) (hL : LI j cp k n A) (hK : ∀ cp' k' n' A', LI (j + 1) cp' k' n' A' → K cp' k' n' A' (x4 + 4) = some ()) (hc : (xs x4.toNatClampNeg) &&& 31 = 13) : mL_law_b23 xs L K cp k n A x4 = some () := by
  obtain ⟨np, s, F, sz, dp, res, hI, bk, bn, bs⟩ := hL
  have hcp := okc_le hI.2.2.2.1
  obtain ⟨A1, kk, e1, A2, cp', k', n', r, e2, e3, e4, cb, np', s', F', sz', dp', res', hI', hs'⟩ := k_same hI (xs (x4 + 1).toNatClampNeg) (xs (x4 + 2).toNatClampNeg)
  obtain ⟨q, t2, t3⟩ : ∃ q, mX6_same 193 cp A1 (xs (x4 + 1).toNatClampNeg) (xs (x4 + 2).toNatClampNeg) = some q ∧ (if q.2.2 = 0 ∨ q.2.2 = 1 then some q else none) = some (A2, (cp', k', n'), r) := by
    unfold bl at e2
    dsimp only at e2
    cases hq : mX6_same 193 cp A1 (xs (x4 + 1).toNatClampNeg) (xs (x4 + 2).toNatClampNeg) with
    | none => rw [hq] at e2; cases e2
    | some q => rw [hq] at e2; exact ⟨q, rfl, e2⟩
  obtain ⟨hr, t4⟩ : (q.2.2 = 0 ∨ q.2.2 = 1) ∧ q = (A2, (cp', k', n'), r) := by
    by_cases z : q.2.2 = 0 ∨ q.2.2 = 1
    · rw [if_pos z] at t3; exact ⟨z, Option.some.inj t3⟩
    · rw [if_neg z] at t3; cases t3
  subst t4
  have hr1 : r = 0 ∨ r = 1 := hr
  have hLI := LI_next (c := 2) bk bn bs (by omega) cb hI' hs'
  have lim : (k + 2) + k' ≤ 601024 ∧ (n + 6 * 2) + n' ≤ 7293034 := by
    obtain ⟨_, _, _, _, _, _, hI2, b1, b2, _⟩ := hLI
    exact LI_lim hI2.2.2.2.1 (by omega) b1 b2
  have fin := hK _ _ _ _ hLI
  unfold mL_law_b23
  rw [if_neg hend, if_pos hg0, if_neg (by rw [hc]; decide), if_neg (by rw [hc]; decide), if_neg (by rw [hc]; decide), if_neg (by rw [hc]; decide), if_neg (by rw [hc]; decide), if_neg (by rw [hc]; decide), if_neg (by rw [hc]; decide), if_neg (by rw [hc]; decide), if_neg (by rw [hc]; decide), if_neg (by rw [hc]; decide), if_neg (by rw [hc]; decide), if_neg (by rw [hc]; decide), if_neg (by rw [hc]; decide), if_pos hc, if_pos hg1, if_pos hg2, bnd e1]
  dsimp only
  rw [if_pos ⟨by omega, by omega⟩, if_pos hg1, if_pos hg2, bnd t2]
  dsimp only
  rw [if_pos lim, bnd thrown_k]
  dsimp only
  rw [if_pos lim, if_pos e3]
  by_cases z : kk = 0
  · rw [if_pos z, if_pos (by decide), cl0]
    rcases hr1 with rfl | rfl
    · rw [if_pos rfl]
      unfold mL_law_b1046 mL_law_b1052 mL_law_b1322
      rw [if_pos (by rw [e4 z]; decide +kernel), gle]
      exact fin
    · rw [if_neg (by decide)]
      unfold mL_law_b1046 mL_law_b1052 mL_law_b1322
      rw [if_pos (by rw [e4 z]; decide +kernel), gle]
      exact fin
  · rw [if_neg z]
    unfold mL_law_b1052 mL_law_b1322
    rw [gle]
    exact fin
theorem law_fits (hend : ¬ (Int32.ofNat L) - 4 < x4) (hg0 : g_in x4 L = true) (hg1 : g_in (x4 + 1) L = true) (hg2 : g_in (x4 + 2) L = true) (hg3 : g_in (x4 + 3) L = true) (hj : j < 513) (hL : LI j cp k n A) (hK : ∀ cp' k' n' A', LI (j + 1) cp' k' n' A' → K cp' k' n' A' (x4 + 4) = some ()) (hc : (xs x4.toNatClampNeg) &&& 31 = 14) : mL_law_b23 xs L K cp k n A x4 = some () := by
  obtain ⟨np, s, F, sz, dp, res, hI, bk, bn, bs⟩ := hL
  have hcp := okc_le hI.2.2.2.1
  obtain ⟨A1, kk, e1, A2, cp', k', n', r, e2, e3, e4, cb, np', s', F', sz', dp', res', hI', hs'⟩ := k_fits hI (xs (x4 + 1).toNatClampNeg) (xs (x4 + 2).toNatClampNeg)
  obtain ⟨q, t2, t3⟩ : ∃ q, mX6_fits 193 cp A1 (xs (x4 + 1).toNatClampNeg) (xs (x4 + 2).toNatClampNeg) = some q ∧ (if q.2.2 = 0 ∨ q.2.2 = 1 then some q else none) = some (A2, (cp', k', n'), r) := by
    unfold bl at e2
    dsimp only at e2
    cases hq : mX6_fits 193 cp A1 (xs (x4 + 1).toNatClampNeg) (xs (x4 + 2).toNatClampNeg) with
    | none => rw [hq] at e2; cases e2
    | some q => rw [hq] at e2; exact ⟨q, rfl, e2⟩
  obtain ⟨hr, t4⟩ : (q.2.2 = 0 ∨ q.2.2 = 1) ∧ q = (A2, (cp', k', n'), r) := by
    by_cases z : q.2.2 = 0 ∨ q.2.2 = 1
    · rw [if_pos z] at t3; exact ⟨z, Option.some.inj t3⟩
    · rw [if_neg z] at t3; cases t3
  subst t4
  have hr1 : r = 0 ∨ r = 1 := hr
  have hLI := LI_next (c := 2) bk bn bs (by omega) cb hI' hs'
  have lim : (k + 2) + k' ≤ 601024 ∧ (n + 6 * 2) + n' ≤ 7293034 := by
    obtain ⟨_, _, _, _, _, _, hI2, b1, b2, _⟩ := hLI
    exact LI_lim hI2.2.2.2.1 (by omega) b1 b2
  have fin := hK _ _ _ _ hLI
  unfold mL_law_b23
  rw [if_neg hend, if_pos hg0, if_neg (by rw [hc]; decide), if_neg (by rw [hc]; decide), if_neg (by rw [hc]; decide), if_neg (by rw [hc]; decide), if_neg (by rw [hc]; decide), if_neg (by rw [hc]; decide), if_neg (by rw [hc]; decide), if_neg (by rw [hc]; decide), if_neg (by rw [hc]; decide), if_neg (by rw [hc]; decide), if_neg (by rw [hc]; decide), if_neg (by rw [hc]; decide), if_neg (by rw [hc]; decide), if_neg (by rw [hc]; decide), if_pos hc, if_pos hg1, if_pos hg2, bnd e1]
  dsimp only
  rw [if_pos ⟨by omega, by omega⟩, if_pos hg1, if_pos hg2, bnd t2]
  dsimp only
  rw [if_pos lim, bnd thrown_k]
  dsimp only
  rw [if_pos lim, if_pos e3]
  by_cases z : kk = 0
  · rw [if_pos z, if_pos (by decide), cl0]
    rcases hr1 with rfl | rfl
    · rw [if_pos rfl]
      unfold mL_law_b1121 mL_law_b1127 mL_law_b1322
      rw [if_pos (by rw [e4 z]; decide +kernel), gle]
      exact fin
    · rw [if_neg (by decide)]
      unfold mL_law_b1121 mL_law_b1127 mL_law_b1322
      rw [if_pos (by rw [e4 z]; decide +kernel), gle]
      exact fin
  · rw [if_neg z]
    unfold mL_law_b1127 mL_law_b1322
    rw [gle]
    exact fin
theorem law_goes (hend : ¬ (Int32.ofNat L) - 4 < x4) (hg0 : g_in x4 L = true) (hg1 : g_in (x4 + 1) L = true) (hg2 : g_in (x4 + 2) L = true) (hg3 : g_in (x4 + 3) L = true) (hj : j < 513) (hL : LI j cp k n A) (hK : ∀ cp' k' n' A', LI (j + 1) cp' k' n' A' → K cp' k' n' A' (x4 + 4) = some ()) (hc : (xs x4.toNatClampNeg) &&& 31 = 15) : mL_law_b23 xs L K cp k n A x4 = some () := by
  obtain ⟨np, s, F, sz, dp, res, hI, bk, bn, bs⟩ := hL
  have hcp := okc_le hI.2.2.2.1
  obtain ⟨A1, kk, e1, A2, cp', k', n', r, e2, e3, e4, cb, np', s', F', sz', dp', res', hI', hs'⟩ := k_goes hI (by omega) (xs (x4 + 1).toNatClampNeg) (xs (x4 + 2).toNatClampNeg)
  have hLI := LI_next (c := 2) bk bn bs (by omega) cb hI' hs'
  have lim : (k + 2) + k' ≤ 601024 ∧ (n + 6 * 2) + n' ≤ 7293034 := by
    obtain ⟨_, _, _, _, _, _, hI2, b1, b2, _⟩ := hLI
    exact LI_lim hI2.2.2.2.1 (by omega) b1 b2
  have fin := hK _ _ _ _ hLI
  unfold mL_law_b23
  rw [if_neg hend, if_pos hg0, if_neg (by rw [hc]; decide), if_neg (by rw [hc]; decide), if_neg (by rw [hc]; decide), if_neg (by rw [hc]; decide), if_neg (by rw [hc]; decide), if_neg (by rw [hc]; decide), if_neg (by rw [hc]; decide), if_neg (by rw [hc]; decide), if_neg (by rw [hc]; decide), if_neg (by rw [hc]; decide), if_neg (by rw [hc]; decide), if_neg (by rw [hc]; decide), if_neg (by rw [hc]; decide), if_neg (by rw [hc]; decide), if_neg (by rw [hc]; decide), if_pos hc, if_pos hg1, if_pos hg2, bnd e1]
  dsimp only
  rw [if_pos ⟨by omega, by omega⟩, if_pos hg1, if_pos hg2, bnd e2]
  dsimp only
  rw [if_pos lim, bnd thrown_k]
  dsimp only
  rw [if_pos lim, if_pos e3]
  by_cases z : kk = 0
  · rw [if_pos z, if_pos (by decide), cl0, if_pos (by rw [e4 z]; exact lg_s)]
    unfold mL_law_b1195 mL_law_b1322
    rw [gle]
    exact fin
  · rw [if_neg z]
    unfold mL_law_b1195 mL_law_b1322
    rw [gle]
    exact fin
theorem law_first (hend : ¬ (Int32.ofNat L) - 4 < x4) (hg0 : g_in x4 L = true) (hg1 : g_in (x4 + 1) L = true) (hg2 : g_in (x4 + 2) L = true) (hg3 : g_in (x4 + 3) L = true) (hj : j < 513) (hL : LI j cp k n A) (hK : ∀ cp' k' n' A', LI (j + 1) cp' k' n' A' → K cp' k' n' A' (x4 + 4) = some ()) (hc : (xs x4.toNatClampNeg) &&& 31 = 16) : mL_law_b23 xs L K cp k n A x4 = some () := by
  obtain ⟨np, s, F, sz, dp, res, hI, bk, bn, bs⟩ := hL
  have hcp := okc_le hI.2.2.2.1
  obtain ⟨A1, kk, e1, A2, cp', k', n', r, e2, e3, e4, cb, np', s', F', sz', dp', res', hI', hs'⟩ := k_first hI (by omega) (xs (x4 + 1).toNatClampNeg)
  have hLI := LI_next (c := 1) bk bn bs (by omega) cb hI' hs'
  have lim : (k + 1) + k' ≤ 601024 ∧ (n + 6 * 1) + n' ≤ 7293034 := by
    obtain ⟨_, _, _, _, _, _, hI2, b1, b2, _⟩ := hLI
    exact LI_lim hI2.2.2.2.1 (by omega) b1 b2
  have fin := hK _ _ _ _ hLI
  unfold mL_law_b23
  rw [if_neg hend, if_pos hg0, if_neg (by rw [hc]; decide), if_neg (by rw [hc]; decide), if_neg (by rw [hc]; decide), if_neg (by rw [hc]; decide), if_neg (by rw [hc]; decide), if_neg (by rw [hc]; decide), if_neg (by rw [hc]; decide), if_neg (by rw [hc]; decide), if_neg (by rw [hc]; decide), if_neg (by rw [hc]; decide), if_neg (by rw [hc]; decide), if_neg (by rw [hc]; decide), if_neg (by rw [hc]; decide), if_neg (by rw [hc]; decide), if_neg (by rw [hc]; decide), if_neg (by rw [hc]; decide), if_pos hc, if_pos hg1, bnd e1]
  dsimp only
  rw [if_pos ⟨by omega, by omega⟩, if_pos hg1, bnd e2]
  dsimp only
  rw [if_pos lim, bnd thrown_k]
  dsimp only
  rw [if_pos lim, if_pos e3]
  by_cases z : kk = 0
  · rw [if_pos z, if_pos (by decide), cl0, if_pos (by rw [e4 z]; exact lg_s)]
    unfold mL_law_b1251 mL_law_b1322
    rw [gle]
    exact fin
  · rw [if_neg z]
    unfold mL_law_b1251 mL_law_b1322
    rw [gle]
    exact fin
theorem law_longest (hend : ¬ (Int32.ofNat L) - 4 < x4) (hg0 : g_in x4 L = true) (hg1 : g_in (x4 + 1) L = true) (hg2 : g_in (x4 + 2) L = true) (hg3 : g_in (x4 + 3) L = true) (hj : j < 513) (hL : LI j cp k n A) (hK : ∀ cp' k' n' A', LI (j + 1) cp' k' n' A' → K cp' k' n' A' (x4 + 4) = some ()) (hc : (xs x4.toNatClampNeg) &&& 31 = 17) : mL_law_b23 xs L K cp k n A x4 = some () := by
  obtain ⟨np, s, F, sz, dp, res, hI, bk, bn, bs⟩ := hL
  have hcp := okc_le hI.2.2.2.1
  obtain ⟨A1, v, e1, A2, cp', k', n', e2, cb, np', s', F', sz', dp', res', hI', hs'⟩ := k_longest hI
  have hLI := LI_next (c := 0) bk bn bs (by omega) cb hI' hs'
  have lim : k + k' ≤ 601024 ∧ n + n' ≤ 7293034 := by
    obtain ⟨_, _, _, _, _, _, hI2, b1, b2, _⟩ := hLI
    exact LI_lim hI2.2.2.2.1 (by omega) b1 b2
  have fin := hK _ _ _ _ hLI
  unfold mL_law_b23
  rw [if_neg hend, if_pos hg0, if_neg (by rw [hc]; decide), if_neg (by rw [hc]; decide), if_neg (by rw [hc]; decide), if_neg (by rw [hc]; decide), if_neg (by rw [hc]; decide), if_neg (by rw [hc]; decide), if_neg (by rw [hc]; decide), if_neg (by rw [hc]; decide), if_neg (by rw [hc]; decide), if_neg (by rw [hc]; decide), if_neg (by rw [hc]; decide), if_neg (by rw [hc]; decide), if_neg (by rw [hc]; decide), if_neg (by rw [hc]; decide), if_neg (by rw [hc]; decide), if_neg (by rw [hc]; decide), if_neg (by rw [hc]; decide), if_pos hc, bnd e1]
  dsimp only
  rw [if_pos ⟨by omega, by omega⟩, bnd e2]
  dsimp only
  rw [if_pos lim]
  rw [if_pos rfl]
  unfold mL_law_b1322
  rw [gle]
  exact fin
theorem law_mean (hend : ¬ (Int32.ofNat L) - 4 < x4) (hg0 : g_in x4 L = true) (hg1 : g_in (x4 + 1) L = true) (hg2 : g_in (x4 + 2) L = true) (hg3 : g_in (x4 + 3) L = true) (hj : j < 513) (hL : LI j cp k n A) (hK : ∀ cp' k' n' A', LI (j + 1) cp' k' n' A' → K cp' k' n' A' (x4 + 4) = some ()) (hc : (xs x4.toNatClampNeg) &&& 31 = 18) : mL_law_b23 xs L K cp k n A x4 = some () := by
  obtain ⟨np, s, F, sz, dp, res, hI, bk, bn, bs⟩ := hL
  have hcp := okc_le hI.2.2.2.1
  obtain ⟨A1, v, e1, A2, cp', k', n', e2, cb, np', s', F', sz', dp', res', hI', hs'⟩ := k_mean hI
  have hLI := LI_next (c := 0) bk bn bs (by omega) cb hI' hs'
  have lim : k + k' ≤ 601024 ∧ n + n' ≤ 7293034 := by
    obtain ⟨_, _, _, _, _, _, hI2, b1, b2, _⟩ := hLI
    exact LI_lim hI2.2.2.2.1 (by omega) b1 b2
  have fin := hK _ _ _ _ hLI
  unfold mL_law_b23
  rw [if_neg hend, if_pos hg0, if_neg (by rw [hc]; decide), if_neg (by rw [hc]; decide), if_neg (by rw [hc]; decide), if_neg (by rw [hc]; decide), if_neg (by rw [hc]; decide), if_neg (by rw [hc]; decide), if_neg (by rw [hc]; decide), if_neg (by rw [hc]; decide), if_neg (by rw [hc]; decide), if_neg (by rw [hc]; decide), if_neg (by rw [hc]; decide), if_neg (by rw [hc]; decide), if_neg (by rw [hc]; decide), if_neg (by rw [hc]; decide), if_neg (by rw [hc]; decide), if_neg (by rw [hc]; decide), if_neg (by rw [hc]; decide), if_neg (by rw [hc]; decide), if_pos hc, bnd e1]
  dsimp only
  rw [if_pos ⟨by omega, by omega⟩, bnd e2]
  dsimp only
  rw [if_pos lim]
  have fin2 : mL_law_b1305 xs L K cp' (k + k') (n + n') A2 x4 = some () := by
    unfold mL_law_b1305 mL_law_b1322
    rw [gle]
    exact fin
  by_cases z : Op.cmpValue (FP.dcmp v v) .l = 0
  · rw [if_pos z]
    exact fin2
  · rw [if_neg z, if_neg z, if_neg z]
    exact fin2
theorem law_digest (hend : ¬ (Int32.ofNat L) - 4 < x4) (hg0 : g_in x4 L = true) (hg1 : g_in (x4 + 1) L = true) (hg2 : g_in (x4 + 2) L = true) (hg3 : g_in (x4 + 3) L = true) (hj : j < 513) (hL : LI j cp k n A) (hK : ∀ cp' k' n' A', LI (j + 1) cp' k' n' A' → K cp' k' n' A' (x4 + 4) = some ()) (hc : (xs x4.toNatClampNeg) &&& 31 = 19) : mL_law_b23 xs L K cp k n A x4 = some () := by
  obtain ⟨np, s, F, sz, dp, res, hI, bk, bn, bs⟩ := hL
  have hcp := okc_le hI.2.2.2.1
  obtain ⟨A1, v, e1, A2, cp', k', n', e2, cb, np', s', F', sz', dp', res', hI', hs'⟩ := k_digest hI
  have hLI := LI_next (c := 0) bk bn bs (by omega) cb hI' hs'
  have lim : k + k' ≤ 601024 ∧ n + n' ≤ 7293034 := by
    obtain ⟨_, _, _, _, _, _, hI2, b1, b2, _⟩ := hLI
    exact LI_lim hI2.2.2.2.1 (by omega) b1 b2
  have fin := hK _ _ _ _ hLI
  unfold mL_law_b23
  rw [if_neg hend, if_pos hg0, if_neg (by rw [hc]; decide), if_neg (by rw [hc]; decide), if_neg (by rw [hc]; decide), if_neg (by rw [hc]; decide), if_neg (by rw [hc]; decide), if_neg (by rw [hc]; decide), if_neg (by rw [hc]; decide), if_neg (by rw [hc]; decide), if_neg (by rw [hc]; decide), if_neg (by rw [hc]; decide), if_neg (by rw [hc]; decide), if_neg (by rw [hc]; decide), if_neg (by rw [hc]; decide), if_neg (by rw [hc]; decide), if_neg (by rw [hc]; decide), if_neg (by rw [hc]; decide), if_neg (by rw [hc]; decide), if_neg (by rw [hc]; decide), if_neg (by rw [hc]; decide), if_pos hc, bnd e1]
  dsimp only
  rw [if_pos ⟨by omega, by omega⟩, bnd e2]
  dsimp only
  rw [if_pos lim]
  rw [if_pos lg_s]
  unfold mL_law_b1322
  rw [gle]
  exact fin
end LW
