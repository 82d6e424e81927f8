/-! A SECOND, PLAIN PROGRAM of the document as Lean functions (the models of my proof of whole): a ghost that the class is held against -/
def g_dbl (A : gM) (i w : Nat) : Nat → Int32 := fun j => if j < w then A i j else 0
def mX6_thrown_b0 (cp : Nat) (A : gM) : Option (gM × Int32) :=
  some (A, (A 183 0))
def mX6_thrown (cp : Nat) (A : gM) : Option (gM × Int32) := mX6_thrown_b0 cp A
def mX6_fail_b0 (cp : Nat) (A : gM) (x1 : Int32) : Option (gM × Int32) :=
  g_let (g_up A 183 0 x1) fun A1 =>
  some (A1, 0)
def mX6_fail (cp : Nat) (A : gM) (x1 : Int32) : Option (gM × Int32) := mX6_fail_b0 cp A x1
def mX6_isIn_b15 (cp : Nat) (A : gM) (s0 : Int32) : Option (gM × Int32) :=
  if (s0 : Int32) = 0 ∨ (s0 : Int32) = 1 then some (A, s0) else none
def mX6_isIn_b14 (cp : Nat) (A : gM) : Option (gM × Int32) :=
  mX6_isIn_b15 cp A 0
def mX6_isIn_b0 (cp : Nat) (A : gM) (x0 : Int32) (x1 : Int32) (x2 : Int32) : Option (gM × Int32) :=
  if x0 < x1 then
  mX6_isIn_b14 cp A
  else
  if x2 < x0 then
  mX6_isIn_b14 cp A
  else
  mX6_isIn_b15 cp A 1
def mX6_isIn (cp : Nat) (A : gM) (x0 : Int32) (x1 : Int32) (x2 : Int32) : Option (gM × Int32) := mX6_isIn_b0 cp A x0 x1 x2
def mX6_isPart_b0 (cp : Nat) (A : gM) (x1 : Int32) : Option (gM × Int32) :=
  (mX6_isIn cp A x1 0 ((A 183 1) - 1)).bind fun q1 =>
  if (q1.2 : Int32) = 0 ∨ (q1.2 : Int32) = 1 then some (q1.1, q1.2) else none
def mX6_isPart (cp : Nat) (A : gM) (x1 : Int32) : Option (gM × Int32) := mX6_isPart_b0 cp A x1
def mX6_pa_b0 (cp : Nat) (A : gM) (x1 : Int32) (x2 : Int32) : Option (gM × Int32) :=
  if g_in ((6 * x1) + x2) 246 = true then
  some (A, (A 184 ((6 * x1) + x2).toNatClampNeg))
  else none
def mX6_pa (cp : Nat) (A : gM) (x1 : Int32) (x2 : Int32) : Option (gM × Int32) := mX6_pa_b0 cp A x1 x2
def mX6_size_b15 (cp : Nat) (A : gM) (s0 : Int32) : Option (gM × Int32) :=
  some (A, s0)
def mX6_size_b0 (cp : Nat) (A : gM) (x1 : Int32) : Option (gM × Int32) :=
  if x1 = (-1) then
  mX6_size_b15 cp A 0
  else
  (mX6_pa cp A x1 5).bind fun q2 =>
  mX6_size_b15 cp q2.1 q2.2
def mX6_size (cp : Nat) (A : gM) (x1 : Int32) : Option (gM × Int32) := mX6_size_b0 cp A x1
def mX6_isName_b0 (cp : Nat) (A : gM) (x0 : Int32) : Option (gM × Int32) :=
  (mX6_isIn cp A x0 0 9).bind fun q1 =>
  if (q1.2 : Int32) = 0 ∨ (q1.2 : Int32) = 1 then some (q1.1, q1.2) else none
def mX6_isName (cp : Nat) (A : gM) (x0 : Int32) : Option (gM × Int32) := mX6_isName_b0 cp A x0
def mX6_undo_b0 (cp : Nat) (A : gM) : Option (gM × Int32) :=
  g_let (g_up A 183 0 0) fun A1 =>
  if (A1 183 1) = 0 then
  (mX6_fail cp A1 1).bind fun q4 =>
  some (q4.1, q4.2)
  else
  g_let (g_up A1 183 1 ((A1 183 1) - 1)) fun A3 =>
  some (A3, (A3 183 1))
def mX6_undo (cp : Nat) (A : gM) : Option (gM × Int32) := mX6_undo_b0 cp A
def mX6_now_b32 (cp : Nat) (A : gM) (x2 : Int32) : Option (gM × Int32) :=
  some (A, x2)
def mX6_now_b2 (cp : Nat) (K2 : gM → Int32 → Option (gM × Int32)) (A : gM) (x2 : Int32) : Option (gM × Int32) :=
  if g_in x2 cp = true then
  if (A 185 x2.toNatClampNeg) = 4 then
  if g_in x2 cp = true then
  if (A 186 x2.toNatClampNeg) = (-1) then
  mX6_now_b32 cp A x2
  else
  if g_in x2 cp = true then
  g_let (A 186 x2.toNatClampNeg) fun v6 =>
  K2 A v6
  else none
  else none
  else
  mX6_now_b32 cp A x2
  else none
def mX6_now_L2 (cp : Nat) : Nat → gM → Int32 → Option (gM × Int32)
  | 0 => fun _ _ => none
  | f + 1 => mX6_now_b2 cp (mX6_now_L2 cp f)
def mX6_now_b0 (cp : Nat) (A : gM) (x1 : Int32) : Option (gM × Int32) :=
  mX6_now_L2 cp gF A x1
def mX6_now (cp : Nat) (A : gM) (x1 : Int32) : Option (gM × Int32) := mX6_now_b0 cp A x1
def mX6_isPair_b25 (cp : Nat) (A : gM) (s0 : Int32) : Option (gM × Int32) :=
  if (s0 : Int32) = 0 ∨ (s0 : Int32) = 1 then some (A, s0) else none
def mX6_isPair_b20 (cp : Nat) (A : gM) : Option (gM × Int32) :=
  mX6_isPair_b25 cp A 1
def mX6_isPair_b0 (cp : Nat) (A : gM) (x1 : Int32) : Option (gM × Int32) :=
  if g_in x1 cp = true then
  if (A 185 x1.toNatClampNeg) = 2 then
  mX6_isPair_b20 cp A
  else
  if g_in x1 cp = true then
  if (A 185 x1.toNatClampNeg) = 3 then
  mX6_isPair_b20 cp A
  else
  mX6_isPair_b25 cp A 0
  else none
  else none
def mX6_isPair (cp : Nat) (A : gM) (x1 : Int32) : Option (gM × Int32) := mX6_isPair_b0 cp A x1
def mX6_failed_b0 (cp : Nat) (A : gM) (x1 : Int32) (x2 : Int32) : Option (gM × Int32) :=
  g_let (g_up A 183 12 x1) fun A1 =>
  g_let (g_up A1 183 13 x2) fun A2 =>
  some (A2, (-1))
def mX6_failed (cp : Nat) (A : gM) (x1 : Int32) (x2 : Int32) : Option (gM × Int32) := mX6_failed_b0 cp A x1 x2
def mX6_has_b52 (cp : Nat) (rec : gM → Int32 → Int32 → Option (gM × Int32)) (A : gM) (s0 : Int32) : Option (gM × Int32) :=
  if (s0 : Int32) = 0 ∨ (s0 : Int32) = 1 then some (A, s0) else none
def mX6_has_b47 (cp : Nat) (rec : gM → Int32 → Int32 → Option (gM × Int32)) (A : gM) : Option (gM × Int32) :=
  mX6_has_b52 cp rec A 1
def mX6_has_b51 (cp : Nat) (rec : gM → Int32 → Int32 → Option (gM × Int32)) (A : gM) : Option (gM × Int32) :=
  mX6_has_b52 cp rec A 0
def mX6_has_b0 (cp : Nat) (rec : gM → Int32 → Int32 → Option (gM × Int32)) (A : gM) (x1 : Int32) (x2 : Int32) : Option (gM × Int32) :=
  (mX6_now cp A x1).bind fun q1 =>
  if q1.2 = x2 then
  mX6_has_b47 cp rec q1.1
  else
  (mX6_isPair cp q1.1 q1.2).bind fun q3 =>
  if q3.2 = 0 then
  mX6_has_b51 cp rec q3.1
  else
  if g_in q1.2 cp = true then
  (rec q3.1 (q3.1 186 q1.2.toNatClampNeg) x2).bind fun q6 =>
  if q6.2 = 0 then
  if g_in q1.2 cp = true then
  (rec q6.1 (q6.1 187 q1.2.toNatClampNeg) x2).bind fun q9 =>
  if q9.2 = 0 then
  mX6_has_b51 cp rec q9.1
  else
  mX6_has_b47 cp rec q9.1
  else none
  else
  mX6_has_b47 cp rec q6.1
  else none
def mX6_has_body (cp : Nat) (rec : gM → Int32 → Int32 → Option (gM × Int32)) (A : gM) (x1 : Int32) (x2 : Int32) : Option (gM × Int32) := mX6_has_b0 cp rec A x1 x2
def mX6_has (cp : Nat) : Nat → gM → Int32 → Int32 → Option (gM × Int32)
  | 0 => fun _ _ _ => none
  | f + 1 => mX6_has_body cp (mX6_has cp f)
def mX6_codes_b56 (cp : Nat) (rec : gM → Int32 → Option (gM × Int32)) (A : gM) (s0 : Int32) : Option (gM × Int32) :=
  some (A, s0)
def mX6_codes_b0 (cp : Nat) (rec : gM → Int32 → Option (gM × Int32)) (A : gM) (x1 : Int32) : Option (gM × Int32) :=
  (mX6_now cp A x1).bind fun q1 =>
  (mX6_isPair cp q1.1 q1.2).bind fun q2 =>
  if q2.2 = 0 then
  some (q2.1, 1)
  else
  if g_in q1.2 cp = true then
  (rec q2.1 (q2.1 186 q1.2.toNatClampNeg)).bind fun q5 =>
  if q5.2 ≤ 60 then
  if g_in q1.2 cp = true then
  (rec q5.1 (q5.1 187 q1.2.toNatClampNeg)).bind fun q8 =>
  mX6_codes_b56 cp rec q8.1 (if ((1 + q5.2) + q8.2) < 61 then ((1 + q5.2) + q8.2) else 61)
  else none
  else
  mX6_codes_b56 cp rec q5.1 q5.2
  else none
def mX6_codes_body (cp : Nat) (rec : gM → Int32 → Option (gM × Int32)) (A : gM) (x1 : Int32) : Option (gM × Int32) := mX6_codes_b0 cp rec A x1
def mX6_codes (cp : Nat) : Nat → gM → Int32 → Option (gM × Int32)
  | 0 => fun _ _ => none
  | f + 1 => mX6_codes_body cp (mX6_codes cp f)
def mX6_hasOwn_b72 (cp : Nat) (rec : gM → Int32 → Option (gM × Int32)) (A : gM) (s0 : Int32) : Option (gM × Int32) :=
  if (s0 : Int32) = 0 ∨ (s0 : Int32) = 1 then some (A, s0) else none
def mX6_hasOwn_b71 (cp : Nat) (rec : gM → Int32 → Option (gM × Int32)) (A : gM) : Option (gM × Int32) :=
  mX6_hasOwn_b72 cp rec A 0
def mX6_hasOwn_b40 (cp : Nat) (rec : gM → Int32 → Option (gM × Int32)) (A : gM) : Option (gM × Int32) :=
  mX6_hasOwn_b72 cp rec A 1
def mX6_hasOwn_b0 (cp : Nat) (rec : gM → Int32 → Option (gM × Int32)) (A : gM) (x1 : Int32) : Option (gM × Int32) :=
  (mX6_now cp A x1).bind fun q1 =>
  (mX6_isPair cp q1.1 q1.2).bind fun q2 =>
  if q2.2 = 0 then
  if g_in q1.2 cp = true then
  if (q2.1 185 q1.2.toNatClampNeg) = 4 then
  if g_in q1.2 cp = true then
  if (q2.1 188 q1.2.toNatClampNeg) = 0 then
  mX6_hasOwn_b71 cp rec q2.1
  else
  mX6_hasOwn_b72 cp rec q2.1 1
  else none
  else
  mX6_hasOwn_b71 cp rec q2.1
  else none
  else
  if g_in q1.2 cp = true then
  (rec q2.1 (q2.1 186 q1.2.toNatClampNeg)).bind fun q9 =>
  if q9.2 = 0 then
  if g_in q1.2 cp = true then
  (rec q9.1 (q9.1 187 q1.2.toNatClampNeg)).bind fun q12 =>
  if q12.2 = 0 then
  mX6_hasOwn_b72 cp rec q12.1 0
  else
  mX6_hasOwn_b40 cp rec q12.1
  else none
  else
  mX6_hasOwn_b40 cp rec q9.1
  else none
def mX6_hasOwn_body (cp : Nat) (rec : gM → Int32 → Option (gM × Int32)) (A : gM) (x1 : Int32) : Option (gM × Int32) := mX6_hasOwn_b0 cp rec A x1
def mX6_hasOwn (cp : Nat) : Nat → gM → Int32 → Option (gM × Int32)
  | 0 => fun _ _ => none
  | f + 1 => mX6_hasOwn_body cp (mX6_hasOwn cp f)
def mX6_join_b107 (cp : Nat) (rec : gM → Int32 → Int32 → Int32 → Option (gM × Int32)) (fu : Nat) (A : gM) (s0 : Int32) : Option (gM × Int32) :=
  if (s0 : Int32) = 0 ∨ (s0 : Int32) = 1 then some (A, s0) else none
def mX6_join_b79 (cp : Nat) (rec : gM → Int32 → Int32 → Int32 → Option (gM × Int32)) (fu : Nat) (A : gM) (x3 : Int32) (x6 : Int32) (s0 : Int32) : Option (gM × Int32) :=
  (mX6_has cp fu A s0 x6).bind fun q1 =>
  if q1.2 = 0 then
  if g_in x6 cp = true then g_let (g_up q1.1 186 x6.toNatClampNeg s0) fun A4 =>
  if (1 : Int32) = 0 ∨ (1 : Int32) = 1 then some (A4, 1) else none
  else none
  else
  (mX6_failed cp q1.1 3 x3).bind fun q6 =>
  if q6.2 = (-1) then
  mX6_join_b107 cp rec fu q6.1 0
  else
  mX6_join_b107 cp rec fu q6.1 1
def mX6_join_b63 (cp : Nat) (rec : gM → Int32 → Int32 → Int32 → Option (gM × Int32)) (fu : Nat) (A : gM) (x3 : Int32) (x4 : Int32) (x5 : Int32) (s0 : Int32) : Option (gM × Int32) :=
  if s0 = x4 then
  mX6_join_b79 cp rec fu A x3 s0 x5
  else
  mX6_join_b79 cp rec fu A x3 s0 x4
def mX6_join_b45 (cp : Nat) (rec : gM → Int32 → Int32 → Int32 → Option (gM × Int32)) (fu : Nat) (A : gM) (x3 : Int32) (x4 : Int32) (x5 : Int32) : Option (gM × Int32) :=
  if g_in x4 cp = true then
  if (A 185 x4.toNatClampNeg) = 4 then
  mX6_join_b63 cp rec fu A x3 x4 x5 x4
  else
  mX6_join_b63 cp rec fu A x3 x4 x5 x5
  else none
def mX6_join_b210 (cp : Nat) (rec : gM → Int32 → Int32 → Int32 → Option (gM × Int32)) (fu : Nat) (A : gM) (s0 : Int32) : Option (gM × Int32) :=
  if (s0 : Int32) = 0 ∨ (s0 : Int32) = 1 then some (A, s0) else none
def mX6_join_b205 (cp : Nat) (rec : gM → Int32 → Int32 → Int32 → Option (gM × Int32)) (fu : Nat) (A : gM) : Option (gM × Int32) :=
  mX6_join_b210 cp rec fu A 1
def mX6_join_b209 (cp : Nat) (rec : gM → Int32 → Int32 → Int32 → Option (gM × Int32)) (fu : Nat) (A : gM) : Option (gM × Int32) :=
  mX6_join_b210 cp rec fu A 0
def mX6_join_b151 (cp : Nat) (rec : gM → Int32 → Int32 → Int32 → Option (gM × Int32)) (fu : Nat) (A : gM) (s0 : Int32) : Option (gM × Int32) :=
  if (s0 : Int32) = 0 ∨ (s0 : Int32) = 1 then some (A, s0) else none
def mX6_join_b0 (cp : Nat) (rec : gM → Int32 → Int32 → Int32 → Option (gM × Int32)) (fu : Nat) (A : gM) (x1 : Int32) (x2 : Int32) (x3 : Int32) : Option (gM × Int32) :=
  (mX6_now cp A x1).bind fun q1 =>
  (mX6_now cp q1.1 x2).bind fun q2 =>
  if q1.2 = q2.2 then
  if (1 : Int32) = 0 ∨ (1 : Int32) = 1 then some (q2.1, 1) else none
  else
  if g_in q1.2 cp = true then
  if (q2.1 185 q1.2.toNatClampNeg) = 4 then
  mX6_join_b45 cp rec fu q2.1 x3 q1.2 q2.2
  else
  if g_in q2.2 cp = true then
  if (q2.1 185 q2.2.toNatClampNeg) = 4 then
  mX6_join_b45 cp rec fu q2.1 x3 q1.2 q2.2
  else
  if g_in q1.2 cp = true then
  if g_in q2.2 cp = true then
  if (q2.1 185 q1.2.toNatClampNeg) = (q2.1 185 q2.2.toNatClampNeg) then
  (mX6_isPair cp q2.1 q1.2).bind fun q11 =>
  if q11.2 = 0 then
  mX6_join_b205 cp rec fu q11.1
  else
  if g_in q1.2 cp = true then
  if g_in q2.2 cp = true then
  (rec q11.1 (q11.1 186 q1.2.toNatClampNeg) (q11.1 186 q2.2.toNatClampNeg) x3).bind fun q15 =>
  if q15.2 = 0 then
  mX6_join_b209 cp rec fu q15.1
  else
  if g_in q1.2 cp = true then
  if g_in q2.2 cp = true then
  (rec q15.1 (q15.1 187 q1.2.toNatClampNeg) (q15.1 187 q2.2.toNatClampNeg) x3).bind fun q19 =>
  if q19.2 = 0 then
  mX6_join_b209 cp rec fu q19.1
  else
  mX6_join_b205 cp rec fu q19.1
  else none
  else none
  else none
  else none
  else
  (mX6_failed cp q2.1 2 x3).bind fun q21 =>
  if q21.2 = (-1) then
  mX6_join_b151 cp rec fu q21.1 0
  else
  mX6_join_b151 cp rec fu q21.1 1
  else none
  else none
  else none
  else none
def mX6_join_body (cp : Nat) (rec : gM → Int32 → Int32 → Int32 → Option (gM × Int32)) (fu : Nat) (A : gM) (x1 : Int32) (x2 : Int32) (x3 : Int32) : Option (gM × Int32) := mX6_join_b0 cp rec fu A x1 x2 x3
def mX6_join (cp : Nat) : Nat → gM → Int32 → Int32 → Int32 → Option (gM × Int32)
  | 0 => fun _ _ _ _ => none
  | f + 1 => mX6_join_body cp (mX6_join cp f) f
def mX6_isAround_b2 (cp : Nat) (K2 : gM → Int32 → Int32 → Option (gM × Int32)) (A : gM) (x1 : Int32) (x2 : Int32) : Option (gM × Int32) :=
  if (A 183 9) ≤ x2 then
  if (0 : Int32) = 0 ∨ (0 : Int32) = 1 then some (A, 0) else none
  else
  if g_in x2 61 = true then
  (mX6_has cp 1250 A (A 191 x2.toNatClampNeg) x1).bind fun q4 =>
  if q4.2 = 0 then
  g_let (x2 + 1) fun v6 =>
  K2 q4.1 x1 v6
  else
  if (1 : Int32) = 0 ∨ (1 : Int32) = 1 then some (q4.1, 1) else none
  else none
def mX6_isAround_L2 (cp : Nat) : Nat → gM → Int32 → Int32 → Option (gM × Int32)
  | 0 => fun _ _ _ => none
  | f + 1 => mX6_isAround_b2 cp (mX6_isAround_L2 cp f)
def mX6_isAround_b0 (cp : Nat) (A : gM) (x1 : Int32) : Option (gM × Int32) :=
  mX6_isAround_L2 cp gF A x1 0
def mX6_isAround (cp : Nat) (A : gM) (x1 : Int32) : Option (gM × Int32) := mX6_isAround_b0 cp A x1
def mX6_own_b66 (cp : Nat) (rec : gM → Int32 → Option (gM)) (A : gM) : Option (gM) :=
  some A
def mX6_own_b65 (cp : Nat) (rec : gM → Int32 → Option (gM)) (A : gM) (s1 : Int32) (s2 : Int32) : Option (gM) :=
  if g_in s1 cp = true then g_let (g_up A 188 s1.toNatClampNeg (vp_nar .boolean s2)) fun A2 =>
  mX6_own_b66 cp rec A2
  else none
def mX6_own_b0 (cp : Nat) (rec : gM → Int32 → Option (gM)) (A : gM) (x1 : Int32) : Option (gM) :=
  (mX6_now cp A x1).bind fun q1 =>
  (mX6_isPair cp q1.1 q1.2).bind fun q2 =>
  if q2.2 = 0 then
  if g_in q1.2 cp = true then
  if (q2.1 185 q1.2.toNatClampNeg) = 4 then
  (mX6_isAround cp q2.1 q1.2).bind fun q6 =>
  if q6.2 = 0 then
  mX6_own_b65 cp rec q6.1 q1.2 1
  else
  mX6_own_b65 cp rec q6.1 q1.2 0
  else
  mX6_own_b66 cp rec q2.1
  else none
  else
  if g_in q1.2 cp = true then
  (rec q2.1 (q2.1 186 q1.2.toNatClampNeg)).bind fun q9 =>
  if g_in q1.2 cp = true then
  (rec q9 (q9 187 q1.2.toNatClampNeg)).bind fun q11 =>
  mX6_own_b66 cp rec q11
  else none
  else none
def mX6_own_body (cp : Nat) (rec : gM → Int32 → Option (gM)) (A : gM) (x1 : Int32) : Option (gM) := mX6_own_b0 cp rec A x1
def mX6_own (cp : Nat) : Nat → gM → Int32 → Option (gM)
  | 0 => fun _ _ => none
  | f + 1 => mX6_own_body cp (mX6_own cp f)
def mX6_write_b122 (cp : Nat) (rec : gM → Int32 → Nat → Nat → Int32 → Nat → Nat → Option (gM × Int32)) (A : gM) (x3 : Int32) : Option (gM × Int32) :=
  some (A, (x3 + 1))
def mX6_write_b107 (cp : Nat) (rec : gM → Int32 → Nat → Nat → Int32 → Nat → Nat → Option (gM × Int32)) (A : gM) (x2 : Nat) (wx2 : Nat) (x3 : Int32) (x4 : Nat) (wx4 : Nat) (x5 : Int32) (x6 : Int32) : Option (gM × Int32) :=
  if g_in x6 wx4 = true then g_let (g_up A x4 x6.toNatClampNeg x5) fun A2 =>
  if g_in x3 wx2 = true then g_let (g_up A2 x2 x3.toNatClampNeg (10 + x6)) fun A4 =>
  mX6_write_b122 cp rec A4 x3
  else none
  else none
def mX6_write_b82 (cp : Nat) (rec : gM → Int32 → Nat → Nat → Int32 → Nat → Nat → Option (gM × Int32)) (K82 : gM → Nat → Nat → Int32 → Nat → Nat → Int32 → Int32 → Option (gM × Int32)) (A : gM) (x2 : Nat) (wx2 : Nat) (x3 : Int32) (x4 : Nat) (wx4 : Nat) (x5 : Int32) (x6 : Int32) : Option (gM × Int32) :=
  if g_in x6 wx4 = true then
  if (A x4 x6.toNatClampNeg) = x5 then
  mX6_write_b107 cp rec A x2 wx2 x3 x4 wx4 x5 x6
  else
  if g_in x6 wx4 = true then
  if (A x4 x6.toNatClampNeg) = (-1) then
  mX6_write_b107 cp rec A x2 wx2 x3 x4 wx4 x5 x6
  else
  g_let (x6 + 1) fun v5 =>
  K82 A x2 wx2 x3 x4 wx4 x5 v5
  else none
  else none
def mX6_write_L82 (cp : Nat) (rec : gM → Int32 → Nat → Nat → Int32 → Nat → Nat → Option (gM × Int32)) : Nat → gM → Nat → Nat → Int32 → Nat → Nat → Int32 → Int32 → Option (gM × Int32)
  | 0 => fun _ _ _ _ _ _ _ _ => none
  | f + 1 => mX6_write_b82 cp rec (mX6_write_L82 cp rec f)
def mX6_write_b0 (cp : Nat) (rec : gM → Int32 → Nat → Nat → Int32 → Nat → Nat → Option (gM × Int32)) (A : gM) (x1 : Int32) (x2 : Nat) (wx2 : Nat) (x3 : Int32) (x4 : Nat) (wx4 : Nat) : Option (gM × Int32) :=
  (mX6_now cp A x1).bind fun q1 =>
  (mX6_isPair cp q1.1 q1.2).bind fun q2 =>
  if q2.2 = 0 then
  if g_in q1.2 cp = true then
  if g_in x3 wx2 = true then g_let (g_up q2.1 x2 x3.toNatClampNeg (q2.1 185 q1.2.toNatClampNeg)) fun A6 =>
  if g_in q1.2 cp = true then
  if (A6 185 q1.2.toNatClampNeg) = 4 then
  mX6_write_L82 cp rec gF A6 x2 wx2 x3 x4 wx4 q1.2 0
  else
  mX6_write_b122 cp rec A6 x3
  else none
  else none
  else none
  else
  if g_in q1.2 cp = true then
  if g_in x3 wx2 = true then g_let (g_up q2.1 x2 x3.toNatClampNeg (q2.1 185 q1.2.toNatClampNeg)) fun A11 =>
  if g_in q1.2 cp = true then
  if g_in q1.2 cp = true then
  (rec A11 (A11 186 q1.2.toNatClampNeg) x2 wx2 (x3 + 1) x4 wx4).bind fun q14 =>
  (rec q14.1 (A11 187 q1.2.toNatClampNeg) x2 wx2 q14.2 x4 wx4).bind fun q15 =>
  some (q15.1, q15.2)
  else none
  else none
  else none
  else none
def mX6_write_body (cp : Nat) (rec : gM → Int32 → Nat → Nat → Int32 → Nat → Nat → Option (gM × Int32)) (A : gM) (x1 : Int32) (x2 : Nat) (wx2 : Nat) (x3 : Int32) (x4 : Nat) (wx4 : Nat) : Option (gM × Int32) := mX6_write_b0 cp rec A x1 x2 wx2 x3 x4 wx4
def mX6_write (cp : Nat) : Nat → gM → Int32 → Nat → Nat → Int32 → Nat → Nat → Option (gM × Int32)
  | 0 => fun _ _ _ _ _ _ _ => none
  | f + 1 => mX6_write_body cp (mX6_write cp f)
def mX6_deep_b43 (cp : Nat) (rec : gM → Int32 → Option (gM × Int32)) (A : gM) (s0 : Int32) : Option (gM × Int32) :=
  some (A, s0)
def mX6_deep_b0 (cp : Nat) (rec : gM → Int32 → Option (gM × Int32)) (A : gM) (x1 : Int32) : Option (gM × Int32) :=
  (mX6_now cp A x1).bind fun q1 =>
  (mX6_isPair cp q1.1 q1.2).bind fun q2 =>
  if q2.2 = 0 then
  mX6_deep_b43 cp rec q2.1 1
  else
  if g_in q1.2 cp = true then
  (rec q2.1 (q2.1 186 q1.2.toNatClampNeg)).bind fun q5 =>
  if g_in q1.2 cp = true then
  (rec q5.1 (q5.1 187 q1.2.toNatClampNeg)).bind fun q7 =>
  mX6_deep_b43 cp rec q7.1 (1 + (if q5.2 < q7.2 then q7.2 else q5.2))
  else none
  else none
def mX6_deep_body (cp : Nat) (rec : gM → Int32 → Option (gM × Int32)) (A : gM) (x1 : Int32) : Option (gM × Int32) := mX6_deep_b0 cp rec A x1
def mX6_deep (cp : Nat) : Nat → gM → Int32 → Option (gM × Int32)
  | 0 => fun _ _ => none
  | f + 1 => mX6_deep_body cp (mX6_deep cp f)
def mX6_depth_b38 (cp : Nat) (rec : gM → Int32 → Option (gM × Int32)) (K4 : gM → Int32 → Int32 → Int32 → Option (gM × Int32)) (A : gM) (x1 : Int32) (x2 : Int32) (x3 : Int32) : Option (gM × Int32) :=
  g_let (x3 + 1) fun v1 =>
  K4 A x1 x2 v1
def mX6_depth_b4 (cp : Nat) (rec : gM → Int32 → Option (gM × Int32)) (K4 : gM → Int32 → Int32 → Int32 → Option (gM × Int32)) (A : gM) (x1 : Int32) (x2 : Int32) (x3 : Int32) : Option (gM × Int32) :=
  if 3 ≤ x3 then
  some (A, (x2 + 1))
  else
  (mX6_pa cp A x1 (1 + x3)).bind fun q2 =>
  if q2.2 = (-1) then
  mX6_depth_b38 cp rec K4 q2.1 x1 x2 x3
  else
  (mX6_pa cp q2.1 x1 (1 + x3)).bind fun q4 =>
  (rec q4.1 q4.2).bind fun q5 =>
  g_let (if x2 < q5.2 then q5.2 else x2) fun v6 =>
  mX6_depth_b38 cp rec K4 q5.1 x1 v6 x3
def mX6_depth_L4 (cp : Nat) (rec : gM → Int32 → Option (gM × Int32)) : Nat → gM → Int32 → Int32 → Int32 → Option (gM × Int32)
  | 0 => fun _ _ _ _ => none
  | f + 1 => mX6_depth_b4 cp rec (mX6_depth_L4 cp rec f)
def mX6_depth_b0 (cp : Nat) (rec : gM → Int32 → Option (gM × Int32)) (A : gM) (x1 : Int32) : Option (gM × Int32) :=
  mX6_depth_L4 cp rec gF A x1 0 0
def mX6_depth_body (cp : Nat) (rec : gM → Int32 → Option (gM × Int32)) (A : gM) (x1 : Int32) : Option (gM × Int32) := mX6_depth_b0 cp rec A x1
def mX6_depth (cp : Nat) : Nat → gM → Int32 → Option (gM × Int32)
  | 0 => fun _ _ => none
  | f + 1 => mX6_depth_body cp (mX6_depth cp f)
def mX6_behind_b31 (cp : Nat) (rec : gM → Nat → Nat → Int32 → Option (gM × Int32)) (A : gM) (s0 : Int32) : Option (gM × Int32) :=
  some (A, s0)
def mX6_behind_b14 (cp : Nat) (rec : gM → Nat → Nat → Int32 → Option (gM × Int32)) (A : gM) (x0 : Nat) (wx0 : Nat) (x1 : Int32) : Option (gM × Int32) :=
  (rec A x0 wx0 (x1 + 1)).bind fun q1 =>
  (rec q1.1 x0 wx0 q1.2).bind fun q2 =>
  mX6_behind_b31 cp rec q2.1 q2.2
def mX6_behind_b0 (cp : Nat) (rec : gM → Nat → Nat → Int32 → Option (gM × Int32)) (A : gM) (x0 : Nat) (wx0 : Nat) (x1 : Int32) : Option (gM × Int32) :=
  if g_in x1 wx0 = true then
  if (A x0 x1.toNatClampNeg) = 2 then
  mX6_behind_b14 cp rec A x0 wx0 x1
  else
  if g_in x1 wx0 = true then
  if (A x0 x1.toNatClampNeg) = 3 then
  mX6_behind_b14 cp rec A x0 wx0 x1
  else
  mX6_behind_b31 cp rec A (x1 + 1)
  else none
  else none
def mX6_behind_body (cp : Nat) (rec : gM → Nat → Nat → Int32 → Option (gM × Int32)) (A : gM) (x0 : Nat) (wx0 : Nat) (x1 : Int32) : Option (gM × Int32) := mX6_behind_b0 cp rec A x0 wx0 x1
def mX6_behind (cp : Nat) : Nat → gM → Nat → Nat → Int32 → Option (gM × Int32)
  | 0 => fun _ _ _ _ => none
  | f + 1 => mX6_behind_body cp (mX6_behind cp f)
def mX6_partTold_b20 (cp : Nat) (A : gM) (s0 : Int32) : Option (gM × Int32) :=
  some (A, s0)
def mX6_partTold_b0 (cp : Nat) (A : gM) (x1 : Int32) (x2 : Int32) : Option (gM × Int32) :=
  if 6 ≤ x2 then
  (mX6_depth cp 45 A x1).bind fun q2 =>
  mX6_partTold_b20 cp q2.1 q2.2
  else
  (mX6_pa cp A x1 x2).bind fun q3 =>
  mX6_partTold_b20 cp q3.1 q3.2
def mX6_partTold (cp : Nat) (A : gM) (x1 : Int32) (x2 : Int32) : Option (gM × Int32) := mX6_partTold_b0 cp A x1 x2
def mX6_part_b37 (cp : Nat) (A : gM) (s0 : Int32) : Option (gM × Int32) :=
  some (A, s0)
def mX6_part_b32 (cp : Nat) (A : gM) : Option (gM × Int32) :=
  (mX6_fail cp A 1).bind fun q1 =>
  mX6_part_b37 cp q1.1 q1.2
def mX6_part_b0 (cp : Nat) (A : gM) (x1 : Int32) (x2 : Int32) : Option (gM × Int32) :=
  g_let (g_up A 183 0 0) fun A1 =>
  (mX6_isPart cp A1 x1).bind fun q2 =>
  if q2.2 = 0 then
  mX6_part_b32 cp q2.1
  else
  (mX6_isIn cp q2.1 x2 0 6).bind fun q4 =>
  if q4.2 = 0 then
  mX6_part_b32 cp q4.1
  else
  (mX6_partTold cp q4.1 x1 x2).bind fun q6 =>
  mX6_part_b37 cp q6.1 q6.2
def mX6_part (cp : Nat) (A : gM) (x1 : Int32) (x2 : Int32) : Option (gM × Int32) := mX6_part_b0 cp A x1 x2
def g_grok (A : gM) (cp : Nat) : Bool := decide (cp ≤ 20000) && (List.range cp).all fun i => A 188 i == 0 || A 188 i == 1
def g_grown (A : gM) (cp : Nat) : gM := fun a => if 185 ≤ a ∧ a ≤ 189 then g_dbl A a cp else A a
def mX6_node_b87 (N cp k n : Nat) (A : gM) (x1 : Int32) (x2 : Int32) (x3 : Int32) : Option (gM × (Nat × Nat × Nat) × Int32) :=
  if g_in (A 183 3) cp = true then g_let (g_up A 185 (A 183 3).toNatClampNeg x1) fun A2 =>
  if g_in (A2 183 3) cp = true then g_let (g_up A2 186 (A2 183 3).toNatClampNeg x2) fun A4 =>
  if g_in (A4 183 3) cp = true then g_let (g_up A4 187 (A4 183 3).toNatClampNeg x3) fun A6 =>
  if g_in (A6 183 3) cp = true then g_let (g_up A6 188 (A6 183 3).toNatClampNeg (vp_nar .boolean 0)) fun A8 =>
  if g_in (A8 183 3) cp = true then g_let (g_up A8 189 (A8 183 3).toNatClampNeg (-1)) fun A10 =>
  g_let (g_up A10 183 3 ((A10 183 3) + 1)) fun A11 =>
  some (A11, (cp, k, n), ((A11 183 3) - 1))
  else none
  else none
  else none
  else none
  else none
def mX6_node_b0 (N cp k n : Nat) (A : gM) (x1 : Int32) (x2 : Int32) (x3 : Int32) : Option (gM × (Nat × Nat × Nat) × Int32) :=
  if (A 183 3) = (Int32.ofNat cp) then
  if g_grok A cp = true then
  mX6_node_b87 N (2 * cp) (k + 5) (n + 10 * cp) (g_grown A cp) x1 x2 x3
  else none
  else
  mX6_node_b87 N cp k n A x1 x2 x3
def mX6_node (N cp : Nat) (A : gM) (x1 : Int32) (x2 : Int32) (x3 : Int32) : Option (gM × (Nat × Nat × Nat) × Int32) := mX6_node_b0 N cp 0 0 A x1 x2 x3
def mX6_variable_b7 (N cp k n : Nat) (A : gM) (s0 : Int32) : Option (gM × (Nat × Nat × Nat) × Int32) :=
  some (A, (cp, k, n), s0)
def mX6_variable_b0 (N cp k n : Nat) (A : gM) : Option (gM × (Nat × Nat × Nat) × Int32) :=
  (mX6_node N cp A 4 (-1) (-1)).bind fun q1 =>
  mX6_variable_b7 N q1.2.1.1 (k + q1.2.1.2.1) (n + q1.2.1.2.2) q1.1 q1.2.2
def mX6_variable (N cp : Nat) (A : gM) : Option (gM × (Nat × Nat × Nat) × Int32) := mX6_variable_b0 N cp 0 0 A
def mX6_put_b4 (N cp k n : Nat) (A : gM) (x1 : Int32) (x2 : Int32) (x3 : Int32) (x4 : Int32) (x5 : Int32) (ws0 : Nat) : Option (gM × (Nat × Nat × Nat)) :=
  if g_in 0 ws0 = true then g_let (g_up A N (0 : Int32).toNatClampNeg x1) fun A2 =>
  if g_in 1 ws0 = true then g_let (g_up A2 N (1 : Int32).toNatClampNeg x2) fun A4 =>
  if g_in 2 ws0 = true then g_let (g_up A4 N (2 : Int32).toNatClampNeg x3) fun A6 =>
  if g_in 3 ws0 = true then g_let (g_up A6 N (3 : Int32).toNatClampNeg x4) fun A8 =>
  if g_in 4 ws0 = true then g_let (g_up A8 N (4 : Int32).toNatClampNeg x5) fun A10 =>
  (mX6_size cp A10 x2).bind fun q11 =>
  (mX6_size cp q11.1 x3).bind fun q12 =>
  (mX6_size cp q12.1 x4).bind fun q13 =>
  if g_in 5 ws0 = true then g_let (g_up q13.1 N (5 : Int32).toNatClampNeg (((1 + q11.2) + q12.2) + q13.2)) fun A15 =>
  if ¬ 0 < (0 : Int32) ∧ ¬ (6 * (A15 183 1)) < (0 : Int32) ∧ ¬ 6 < (0 : Int32) ∧ (0 : Int32).toNatClampNeg + (6 : Int32).toNatClampNeg ≤ ws0 ∧ (6 * (A15 183 1)).toNatClampNeg + (6 : Int32).toNatClampNeg ≤ 246 then g_let (g_row A15 184 (va_cpy (A15 N) (A15 184) (0 : Int32).toNatClampNeg (6 * (A15 183 1)).toNatClampNeg (6 : Int32).toNatClampNeg)) fun A17 =>
  some (A17, (cp, k, n))
  else none
  else none
  else none
  else none
  else none
  else none
  else none
def mX6_put_b0 (N cp k n : Nat) (A : gM) (x1 : Int32) (x2 : Int32) (x3 : Int32) (x4 : Int32) (x5 : Int32) : Option (gM × (Nat × Nat × Nat)) :=
  if ¬ 6 < (0 : Int32) ∧ (6 : Int32).toNatClampNeg ≤ 100000 then
  mX6_put_b4 N cp (k + 1) (n + (6 : Int32).toNatClampNeg) (g_row A N (fun _ => 0)) x1 x2 x3 x4 x5 ((6 : Int32).toNatClampNeg)
  else none
def mX6_put (N cp : Nat) (A : gM) (x1 : Int32) (x2 : Int32) (x3 : Int32) (x4 : Int32) (x5 : Int32) : Option (gM × (Nat × Nat × Nat)) := mX6_put_b0 N cp 0 0 A x1 x2 x3 x4 x5
def mX6_made_b34 (N cp k n : Nat) (A : gM) (x6 : Int32) : Option (gM × (Nat × Nat × Nat) × Int32) :=
  (mX6_fail cp A x6).bind fun q1 =>
  some (q1.1, (cp, k, n), q1.2)
def mX6_made_b52 (N cp k n : Nat) (A : gM) : Option (gM × (Nat × Nat × Nat) × Int32) :=
  g_let (g_up A 183 1 ((A 183 1) + 1)) fun A1 =>
  some (A1, (cp, k, n), ((A1 183 1) - 1))
def mX6_made_b0 (N cp k n : Nat) (A : gM) (x1 : Int32) (x2 : Int32) (x3 : Int32) (x4 : Int32) (x5 : Int32) (x6 : Int32) : Option (gM × (Nat × Nat × Nat) × Int32) :=
  if (A 183 1) = 40 then
  mX6_made_b34 N cp k n A x6
  else
  (mX6_size cp A x2).bind fun q2 =>
  (mX6_size cp q2.1 x3).bind fun q3 =>
  (mX6_size cp q3.1 x4).bind fun q4 =>
  if (((1 + q2.2) + q3.2) + q4.2) ≤ 60 then
  (mX6_put N cp q4.1 x1 x2 x3 x4 x5).bind fun q6 =>
  mX6_made_b52 N q6.2.1 (k + q6.2.2.1) (n + q6.2.2.2) q6.1
  else
  mX6_made_b34 N cp k n q4.1 x6
def mX6_made (N cp : Nat) (A : gM) (x1 : Int32) (x2 : Int32) (x3 : Int32) (x4 : Int32) (x5 : Int32) (x6 : Int32) : Option (gM × (Nat × Nat × Nat) × Int32) := mX6_made_b0 N cp 0 0 A x1 x2 x3 x4 x5 x6
def mX6_plain_b32 (N cp k n : Nat) (A : gM) (s0 : Int32) : Option (gM × (Nat × Nat × Nat) × Int32) :=
  some (A, (cp, k, n), s0)
def mX6_plain_b24 (N cp k n : Nat) (A : gM) (s0 : Int32) : Option (gM × (Nat × Nat × Nat) × Int32) :=
  mX6_plain_b32 N cp k n A s0
def mX6_plain_b0 (N cp k n : Nat) (A : gM) (x1 : Int32) : Option (gM × (Nat × Nat × Nat) × Int32) :=
  g_let (g_up A 183 0 0) fun A1 =>
  (mX6_isIn cp A1 x1 0 1).bind fun q2 =>
  if q2.2 = 0 then
  (mX6_fail cp q2.1 1).bind fun q4 =>
  mX6_plain_b32 N cp k n q4.1 q4.2
  else
  (mX6_made N cp q2.1 x1 (-1) (-1) (-1) (-1) 2).bind fun q5 =>
  mX6_plain_b24 N q5.2.1.1 (k + q5.2.1.2.1) (n + q5.2.1.2.2) q5.1 q5.2.2
def mX6_plain (N cp : Nat) (A : gM) (x1 : Int32) : Option (gM × (Nat × Nat × Nat) × Int32) := mX6_plain_b0 N cp 0 0 A x1
def mX6_name_b30 (N cp k n : Nat) (A : gM) (s0 : Int32) : Option (gM × (Nat × Nat × Nat) × Int32) :=
  some (A, (cp, k, n), s0)
def mX6_name_b22 (N cp k n : Nat) (A : gM) (s0 : Int32) : Option (gM × (Nat × Nat × Nat) × Int32) :=
  mX6_name_b30 N cp k n A s0
def mX6_name_b0 (N cp k n : Nat) (A : gM) (x1 : Int32) : Option (gM × (Nat × Nat × Nat) × Int32) :=
  g_let (g_up A 183 0 0) fun A1 =>
  (mX6_isName cp A1 x1).bind fun q2 =>
  if q2.2 = 0 then
  (mX6_fail cp q2.1 1).bind fun q4 =>
  mX6_name_b30 N cp k n q4.1 q4.2
  else
  (mX6_made N cp q2.1 2 (-1) (-1) (-1) x1 2).bind fun q5 =>
  mX6_name_b22 N q5.2.1.1 (k + q5.2.1.2.1) (n + q5.2.1.2.2) q5.1 q5.2.2
def mX6_name (N cp : Nat) (A : gM) (x1 : Int32) : Option (gM × (Nat × Nat × Nat) × Int32) := mX6_name_b0 N cp 0 0 A x1
def mX6_wheel_b44 (N cp k n : Nat) (A : gM) (s0 : Int32) : Option (gM × (Nat × Nat × Nat) × Int32) :=
  some (A, (cp, k, n), s0)
def mX6_wheel_b36 (N cp k n : Nat) (A : gM) (s0 : Int32) : Option (gM × (Nat × Nat × Nat) × Int32) :=
  mX6_wheel_b44 N cp k n A s0
def mX6_wheel_b0 (N cp k n : Nat) (A : gM) (x1 : Int32) (x2 : Int32) : Option (gM × (Nat × Nat × Nat) × Int32) :=
  g_let (g_up A 183 0 0) fun A1 =>
  (mX6_isPart cp A1 x2).bind fun q2 =>
  if q2.2 = 0 then
  (mX6_fail cp q2.1 1).bind fun q8 =>
  some (q8.1, (cp, k, n), q8.2)
  else
  (mX6_isName cp q2.1 x1).bind fun q4 =>
  if q4.2 = 0 then
  (mX6_fail cp q4.1 2).bind fun q6 =>
  mX6_wheel_b44 N cp k n q6.1 q6.2
  else
  (mX6_made N cp q4.1 3 x2 (-1) (-1) x1 3).bind fun q7 =>
  mX6_wheel_b36 N q7.2.1.1 (k + q7.2.1.2.1) (n + q7.2.1.2.2) q7.1 q7.2.2
def mX6_wheel (N cp : Nat) (A : gM) (x1 : Int32) (x2 : Int32) : Option (gM × (Nat × Nat × Nat) × Int32) := mX6_wheel_b0 N cp 0 0 A x1 x2
def mX6_turn_b39 (N cp k n : Nat) (A : gM) (s0 : Int32) : Option (gM × (Nat × Nat × Nat) × Int32) :=
  some (A, (cp, k, n), s0)
def mX6_turn_b34 (N cp k n : Nat) (A : gM) : Option (gM × (Nat × Nat × Nat) × Int32) :=
  (mX6_fail cp A 1).bind fun q1 =>
  mX6_turn_b39 N cp k n q1.1 q1.2
def mX6_turn_b31 (N cp k n : Nat) (A : gM) (s0 : Int32) : Option (gM × (Nat × Nat × Nat) × Int32) :=
  mX6_turn_b39 N cp k n A s0
def mX6_turn_b0 (N cp k n : Nat) (A : gM) (x1 : Int32) (x2 : Int32) : Option (gM × (Nat × Nat × Nat) × Int32) :=
  g_let (g_up A 183 0 0) fun A1 =>
  (mX6_isPart cp A1 x1).bind fun q2 =>
  if q2.2 = 0 then
  mX6_turn_b34 N cp k n q2.1
  else
  (mX6_isPart cp q2.1 x2).bind fun q4 =>
  if q4.2 = 0 then
  mX6_turn_b34 N cp k n q4.1
  else
  (mX6_made N cp q4.1 4 x1 x2 (-1) (-1) 2).bind fun q6 =>
  mX6_turn_b31 N q6.2.1.1 (k + q6.2.1.2.1) (n + q6.2.1.2.2) q6.1 q6.2.2
def mX6_turn (N cp : Nat) (A : gM) (x1 : Int32) (x2 : Int32) : Option (gM × (Nat × Nat × Nat) × Int32) := mX6_turn_b0 N cp 0 0 A x1 x2
def mX6_tell_b21 (N cp k n : Nat) (A : gM) : Option (gM × (Nat × Nat × Nat) × Int32) :=
  (mX6_fail cp A 1).bind fun q1 =>
  some (q1.1, (cp, k, n), q1.2)
def mX6_tell_b52 (N cp k n : Nat) (A : gM) (s0 : Int32) : Option (gM × (Nat × Nat × Nat) × Int32) :=
  some (A, (cp, k, n), s0)
def mX6_tell_b44 (N cp k n : Nat) (A : gM) (s0 : Int32) : Option (gM × (Nat × Nat × Nat) × Int32) :=
  mX6_tell_b52 N cp k n A s0
def mX6_tell_b0 (N cp k n : Nat) (A : gM) (x1 : Int32) (x2 : Int32) (x3 : Int32) : Option (gM × (Nat × Nat × Nat) × Int32) :=
  g_let (g_up A 183 0 0) fun A1 =>
  (mX6_isPart cp A1 x2).bind fun q2 =>
  if q2.2 = 0 then
  mX6_tell_b21 N cp k n q2.1
  else
  (mX6_isPart cp q2.1 x3).bind fun q4 =>
  if q4.2 = 0 then
  mX6_tell_b21 N cp k n q4.1
  else
  (mX6_isName cp q4.1 x1).bind fun q6 =>
  if q6.2 = 0 then
  (mX6_fail cp q6.1 2).bind fun q8 =>
  mX6_tell_b52 N cp k n q8.1 q8.2
  else
  (mX6_made N cp q6.1 5 x2 x3 (-1) x1 3).bind fun q9 =>
  mX6_tell_b44 N q9.2.1.1 (k + q9.2.1.2.1) (n + q9.2.1.2.2) q9.1 q9.2.2
def mX6_tell (N cp : Nat) (A : gM) (x1 : Int32) (x2 : Int32) (x3 : Int32) : Option (gM × (Nat × Nat × Nat) × Int32) := mX6_tell_b0 N cp 0 0 A x1 x2 x3
def mX6_axle_b40 (N cp k n : Nat) (A : gM) (s0 : Int32) : Option (gM × (Nat × Nat × Nat) × Int32) :=
  some (A, (cp, k, n), s0)
def mX6_axle_b35 (N cp k n : Nat) (A : gM) : Option (gM × (Nat × Nat × Nat) × Int32) :=
  (mX6_fail cp A 1).bind fun q1 =>
  mX6_axle_b40 N cp k n q1.1 q1.2
def mX6_axle_b32 (N cp k n : Nat) (A : gM) (s0 : Int32) : Option (gM × (Nat × Nat × Nat) × Int32) :=
  mX6_axle_b40 N cp k n A s0
def mX6_axle_b0 (N cp k n : Nat) (A : gM) (x1 : Int32) (x2 : Int32) : Option (gM × (Nat × Nat × Nat) × Int32) :=
  g_let (g_up A 183 0 0) fun A1 =>
  (mX6_isPart cp A1 x1).bind fun q2 =>
  if q2.2 = 0 then
  mX6_axle_b35 N cp k n q2.1
  else
  (mX6_isPart cp q2.1 x2).bind fun q4 =>
  if q4.2 = 0 then
  mX6_axle_b35 N cp k n q4.1
  else
  (mX6_made N cp q4.1 6 x1 x2 (-1) (-1) 2).bind fun q6 =>
  mX6_axle_b32 N q6.2.1.1 (k + q6.2.1.2.1) (n + q6.2.1.2.2) q6.1 q6.2.2
def mX6_axle (N cp : Nat) (A : gM) (x1 : Int32) (x2 : Int32) : Option (gM × (Nat × Nat × Nat) × Int32) := mX6_axle_b0 N cp 0 0 A x1 x2
def mX6_end_b47 (N cp k n : Nat) (A : gM) (s0 : Int32) : Option (gM × (Nat × Nat × Nat) × Int32) :=
  some (A, (cp, k, n), s0)
def mX6_end_b39 (N cp k n : Nat) (A : gM) (s0 : Int32) : Option (gM × (Nat × Nat × Nat) × Int32) :=
  mX6_end_b47 N cp k n A s0
def mX6_end_b0 (N cp k n : Nat) (A : gM) (x1 : Int32) (x2 : Int32) : Option (gM × (Nat × Nat × Nat) × Int32) :=
  g_let (g_up A 183 0 0) fun A1 =>
  (mX6_isPart cp A1 x1).bind fun q2 =>
  if q2.2 = 0 then
  (mX6_fail cp q2.1 1).bind fun q8 =>
  some (q8.1, (cp, k, n), q8.2)
  else
  (mX6_isIn cp q2.1 x2 0 1).bind fun q4 =>
  if q4.2 = 0 then
  (mX6_fail cp q4.1 2).bind fun q6 =>
  mX6_end_b47 N cp k n q6.1 q6.2
  else
  (mX6_made N cp q4.1 7 x1 (-1) (-1) x2 3).bind fun q7 =>
  mX6_end_b39 N q7.2.1.1 (k + q7.2.1.2.1) (n + q7.2.1.2.2) q7.1 q7.2.2
def mX6_end (N cp : Nat) (A : gM) (x1 : Int32) (x2 : Int32) : Option (gM × (Nat × Nat × Nat) × Int32) := mX6_end_b0 N cp 0 0 A x1 x2
def mX6_either_b48 (N cp k n : Nat) (A : gM) (s0 : Int32) : Option (gM × (Nat × Nat × Nat) × Int32) :=
  some (A, (cp, k, n), s0)
def mX6_either_b43 (N cp k n : Nat) (A : gM) : Option (gM × (Nat × Nat × Nat) × Int32) :=
  (mX6_fail cp A 1).bind fun q1 =>
  mX6_either_b48 N cp k n q1.1 q1.2
def mX6_either_b40 (N cp k n : Nat) (A : gM) (s0 : Int32) : Option (gM × (Nat × Nat × Nat) × Int32) :=
  mX6_either_b48 N cp k n A s0
def mX6_either_b0 (N cp k n : Nat) (A : gM) (x1 : Int32) (x2 : Int32) (x3 : Int32) : Option (gM × (Nat × Nat × Nat) × Int32) :=
  g_let (g_up A 183 0 0) fun A1 =>
  (mX6_isPart cp A1 x1).bind fun q2 =>
  if q2.2 = 0 then
  mX6_either_b43 N cp k n q2.1
  else
  (mX6_isPart cp q2.1 x2).bind fun q4 =>
  if q4.2 = 0 then
  mX6_either_b43 N cp k n q4.1
  else
  (mX6_isPart cp q4.1 x3).bind fun q6 =>
  if q6.2 = 0 then
  mX6_either_b43 N cp k n q6.1
  else
  (mX6_made N cp q6.1 8 x1 x2 x3 (-1) 2).bind fun q8 =>
  mX6_either_b40 N q8.2.1.1 (k + q8.2.1.2.1) (n + q8.2.1.2.2) q8.1 q8.2.2
def mX6_either (N cp : Nat) (A : gM) (x1 : Int32) (x2 : Int32) (x3 : Int32) : Option (gM × (Nat × Nat × Nat) × Int32) := mX6_either_b0 N cp 0 0 A x1 x2 x3
def mX6_used_b82 (N cp k n : Nat) (rec : Nat → gM → Int32 → Int32 → Option (gM × (Nat × Nat × Nat) × Int32)) (fu : Nat) (A : gM) (x3 : Int32) (s0 : Int32) : Option (gM × (Nat × Nat × Nat) × Int32) :=
  if g_in x3 cp = true then g_let (g_up A 189 x3.toNatClampNeg s0) fun A2 =>
  some (A2, (cp, k, n), s0)
  else none
def mX6_used_b60 (N cp k n : Nat) (rec : Nat → gM → Int32 → Int32 → Option (gM × (Nat × Nat × Nat) × Int32)) (fu : Nat) (A : gM) (s0 : Int32) : Option (gM × (Nat × Nat × Nat) × Int32) :=
  some (A, (cp, k, n), s0)
def mX6_used_b57 (N cp k n : Nat) (rec : Nat → gM → Int32 → Int32 → Option (gM × (Nat × Nat × Nat) × Int32)) (fu : Nat) (A : gM) (s1 : Int32) (s2 : Int32) (s3 : Int32) : Option (gM × (Nat × Nat × Nat) × Int32) :=
  (mX6_node N cp A s1 s2 s3).bind fun q1 =>
  mX6_used_b60 N q1.2.1.1 (k + q1.2.1.2.1) (n + q1.2.1.2.2) rec fu q1.1 q1.2.2
def mX6_used_b35 (N cp k n : Nat) (rec : Nat → gM → Int32 → Int32 → Option (gM × (Nat × Nat × Nat) × Int32)) (fu : Nat) (A : gM) (x2 : Int32) (x3 : Int32) (s0 : Int32) : Option (gM × (Nat × Nat × Nat) × Int32) :=
  if g_in x3 cp = true then
  if g_in x3 cp = true then
  (rec cp A (A 187 x3.toNatClampNeg) x2).bind fun q3 =>
  mX6_used_b57 N q3.2.1.1 (k + q3.2.1.2.1) (n + q3.2.1.2.2) rec fu q3.1 (A 185 x3.toNatClampNeg) s0 q3.2.2
  else none
  else none
def mX6_used_b0 (N cp k n : Nat) (rec : Nat → gM → Int32 → Int32 → Option (gM × (Nat × Nat × Nat) × Int32)) (fu : Nat) (A : gM) (x1 : Int32) (x2 : Int32) : Option (gM × (Nat × Nat × Nat) × Int32) :=
  (mX6_now cp A x1).bind fun q1 =>
  (mX6_hasOwn cp fu q1.1 q1.2).bind fun q2 =>
  if q2.2 = 0 then
  some (q2.1, (cp, k, n), q1.2)
  else
  (mX6_isPair cp q2.1 q1.2).bind fun q4 =>
  if q4.2 = 0 then
  if g_in q1.2 cp = true then
  if (q4.1 189 q1.2.toNatClampNeg) < x2 then
  (mX6_variable N cp q4.1).bind fun q8 =>
  mX6_used_b82 N q8.2.1.1 (k + q8.2.1.2.1) (n + q8.2.1.2.2) rec fu q8.1 q1.2 q8.2.2
  else
  if g_in q1.2 cp = true then
  some (q4.1, (cp, k, n), (q4.1 189 q1.2.toNatClampNeg))
  else none
  else none
  else
  if g_in q1.2 cp = true then
  (rec cp q4.1 (q4.1 186 q1.2.toNatClampNeg) x2).bind fun q11 =>
  mX6_used_b35 N q11.2.1.1 (k + q11.2.1.2.1) (n + q11.2.1.2.2) rec fu q11.1 x2 q1.2 q11.2.2
  else none
def mX6_used_body (N cp : Nat) (rec : Nat → gM → Int32 → Int32 → Option (gM × (Nat × Nat × Nat) × Int32)) (fu : Nat) (A : gM) (x1 : Int32) (x2 : Int32) : Option (gM × (Nat × Nat × Nat) × Int32) := mX6_used_b0 N cp 0 0 rec fu A x1 x2
def mX6_used (N : Nat) : Nat → Nat → gM → Int32 → Int32 → Option (gM × (Nat × Nat × Nat) × Int32)
  | 0 => fun _ _ _ _ => none
  | f + 1 => fun cp => mX6_used_body N cp (mX6_used N f) f
def mX6_nameFound_b40 (N cp k n : Nat) (A : gM) (s0 : Int32) : Option (gM × (Nat × Nat × Nat) × Int32) :=
  some (A, (cp, k, n), s0)
def mX6_nameFound_b7 (N cp k n : Nat) (K7 : Nat → Nat → Nat → gM → Int32 → Int32 → Option (gM × (Nat × Nat × Nat) × Int32)) (A : gM) (x1 : Int32) (x2 : Int32) : Option (gM × (Nat × Nat × Nat) × Int32) :=
  if x2 < 0 then
  (mX6_failed cp A 1 x1).bind fun q2 =>
  some (q2.1, (cp, k, n), q2.2)
  else
  if g_in x2 61 = true then
  (mX6_pa cp A x1 4).bind fun q4 =>
  if (A 190 x2.toNatClampNeg) = q4.2 then
  if g_in x2 61 = true then
  (mX6_used N 1250 cp q4.1 (q4.1 191 x2.toNatClampNeg) (q4.1 183 3)).bind fun q8 =>
  mX6_nameFound_b40 N q8.2.1.1 (k + q8.2.1.2.1) (n + q8.2.1.2.2) q8.1 q8.2.2
  else none
  else
  g_let (x2 + (-1)) fun v6 =>
  K7 cp k n q4.1 x1 v6
  else none
def mX6_nameFound_L7 (N : Nat) : Nat → Nat → Nat → Nat → gM → Int32 → Int32 → Option (gM × (Nat × Nat × Nat) × Int32)
  | 0 => fun _ _ _ _ _ _ => none
  | f + 1 => fun cp k n => mX6_nameFound_b7 N cp k n (mX6_nameFound_L7 N f)
def mX6_nameFound_b0 (N cp k n : Nat) (A : gM) (x1 : Int32) : Option (gM × (Nat × Nat × Nat) × Int32) :=
  g_let ((A 183 9) - 1) fun v1 =>
  mX6_nameFound_L7 N gF cp k n A x1 v1
def mX6_nameFound (N cp : Nat) (A : gM) (x1 : Int32) : Option (gM × (Nat × Nat × Nat) × Int32) := mX6_nameFound_b0 N cp 0 0 A x1
def mX6_inside_b35 (N cp k n : Nat) (rec : Nat → gM → Int32 → Option (gM × (Nat × Nat × Nat) × Int32)) (A : gM) (s0 : Int32) : Option (gM × (Nat × Nat × Nat) × Int32) :=
  g_let (g_up A 183 9 ((A 183 9) - 1)) fun A1 =>
  some (A1, (cp, k, n), s0)
def mX6_inside_b0 (N cp k n : Nat) (rec : Nat → gM → Int32 → Option (gM × (Nat × Nat × Nat) × Int32)) (A : gM) (x1 : Int32) (x2 : Int32) (x3 : Int32) : Option (gM × (Nat × Nat × Nat) × Int32) :=
  if g_in (A 183 9) 61 = true then g_let (g_up A 190 (A 183 9).toNatClampNeg x2) fun A2 =>
  if g_in (A2 183 9) 61 = true then g_let (g_up A2 191 (A2 183 9).toNatClampNeg x3) fun A4 =>
  g_let (g_up A4 183 9 ((A4 183 9) + 1)) fun A5 =>
  (rec cp A5 x1).bind fun q6 =>
  mX6_inside_b35 N q6.2.1.1 (k + q6.2.1.2.1) (n + q6.2.1.2.2) rec q6.1 q6.2.2
  else none
  else none
def mX6_inside (N cp : Nat) (rec : Nat → gM → Int32 → Option (gM × (Nat × Nat × Nat) × Int32)) (A : gM) (x1 : Int32) (x2 : Int32) (x3 : Int32) : Option (gM × (Nat × Nat × Nat) × Int32) := mX6_inside_b0 N cp 0 0 rec A x1 x2 x3
def mX6_wheelFound_b39 (N cp k n : Nat) (rec : Nat → gM → Int32 → Option (gM × (Nat × Nat × Nat) × Int32)) (A : gM) (s0 : Int32) : Option (gM × (Nat × Nat × Nat) × Int32) :=
  some (A, (cp, k, n), s0)
def mX6_wheelFound_b22 (N cp k n : Nat) (rec : Nat → gM → Int32 → Option (gM × (Nat × Nat × Nat) × Int32)) (A : gM) (x2 : Int32) (s0 : Int32) : Option (gM × (Nat × Nat × Nat) × Int32) :=
  if s0 = (-1) then
  mX6_wheelFound_b39 N cp k n rec A (-1)
  else
  (mX6_node N cp A 2 x2 s0).bind fun q2 =>
  mX6_wheelFound_b39 N q2.2.1.1 (k + q2.2.1.2.1) (n + q2.2.1.2.2) rec q2.1 q2.2.2
def mX6_wheelFound_b4 (N cp k n : Nat) (rec : Nat → gM → Int32 → Option (gM × (Nat × Nat × Nat) × Int32)) (A : gM) (x1 : Int32) (s0 : Int32) : Option (gM × (Nat × Nat × Nat) × Int32) :=
  (mX6_pa cp A x1 1).bind fun q1 =>
  (mX6_pa cp q1.1 x1 4).bind fun q2 =>
  (mX6_inside N cp rec q2.1 q1.2 q2.2 s0).bind fun q3 =>
  mX6_wheelFound_b22 N q3.2.1.1 (k + q3.2.1.2.1) (n + q3.2.1.2.2) rec q3.1 s0 q3.2.2
def mX6_wheelFound_b0 (N cp k n : Nat) (rec : Nat → gM → Int32 → Option (gM × (Nat × Nat × Nat) × Int32)) (A : gM) (x1 : Int32) : Option (gM × (Nat × Nat × Nat) × Int32) :=
  (mX6_variable N cp A).bind fun q1 =>
  mX6_wheelFound_b4 N q1.2.1.1 (k + q1.2.1.2.1) (n + q1.2.1.2.2) rec q1.1 x1 q1.2.2
def mX6_wheelFound (N cp : Nat) (rec : Nat → gM → Int32 → Option (gM × (Nat × Nat × Nat) × Int32)) (A : gM) (x1 : Int32) : Option (gM × (Nat × Nat × Nat) × Int32) := mX6_wheelFound_b0 N cp 0 0 rec A x1
def mX6_turningFound_b65 (N cp k n : Nat) (rec : Nat → gM → Int32 → Option (gM × (Nat × Nat × Nat) × Int32)) (A : gM) (s0 : Int32) : Option (gM × (Nat × Nat × Nat) × Int32) :=
  some (A, (cp, k, n), s0)
def mX6_turningFound_b52 (N cp k n : Nat) (rec : Nat → gM → Int32 → Option (gM × (Nat × Nat × Nat) × Int32)) (A : gM) (x1 : Int32) (x4 : Int32) (s1 : Int32) (s2 : Int32) : Option (gM × (Nat × Nat × Nat) × Int32) :=
  (mX6_join cp 1250 A s1 s2 x1).bind fun q1 =>
  if q1.2 = 0 then
  mX6_turningFound_b65 N cp k n rec q1.1 (-1)
  else
  mX6_turningFound_b65 N cp k n rec q1.1 x4
def mX6_turningFound_b40 (N cp k n : Nat) (rec : Nat → gM → Int32 → Option (gM × (Nat × Nat × Nat) × Int32)) (A : gM) (x1 : Int32) (x2 : Int32) (x3 : Int32) (s0 : Int32) : Option (gM × (Nat × Nat × Nat) × Int32) :=
  (mX6_node N cp A 2 x3 s0).bind fun q1 =>
  mX6_turningFound_b52 N q1.2.1.1 (k + q1.2.1.2.1) (n + q1.2.1.2.2) rec q1.1 x1 s0 x2 q1.2.2
def mX6_turningFound_b28 (N cp k n : Nat) (rec : Nat → gM → Int32 → Option (gM × (Nat × Nat × Nat) × Int32)) (A : gM) (x1 : Int32) (x2 : Int32) (s0 : Int32) : Option (gM × (Nat × Nat × Nat) × Int32) :=
  if s0 = (-1) then
  some (A, (cp, k, n), (-1))
  else
  (mX6_variable N cp A).bind fun q2 =>
  mX6_turningFound_b40 N q2.2.1.1 (k + q2.2.1.2.1) (n + q2.2.1.2.2) rec q2.1 x1 x2 s0 q2.2.2
def mX6_turningFound_b10 (N cp k n : Nat) (rec : Nat → gM → Int32 → Option (gM × (Nat × Nat × Nat) × Int32)) (A : gM) (x1 : Int32) (s0 : Int32) : Option (gM × (Nat × Nat × Nat) × Int32) :=
  if s0 = (-1) then
  some (A, (cp, k, n), (-1))
  else
  (mX6_pa cp A x1 2).bind fun q2 =>
  (rec cp q2.1 q2.2).bind fun q3 =>
  mX6_turningFound_b28 N q3.2.1.1 (k + q3.2.1.2.1) (n + q3.2.1.2.2) rec q3.1 x1 s0 q3.2.2
def mX6_turningFound_b0 (N cp k n : Nat) (rec : Nat → gM → Int32 → Option (gM × (Nat × Nat × Nat) × Int32)) (A : gM) (x1 : Int32) : Option (gM × (Nat × Nat × Nat) × Int32) :=
  (mX6_pa cp A x1 1).bind fun q1 =>
  (rec cp q1.1 q1.2).bind fun q2 =>
  mX6_turningFound_b10 N q2.2.1.1 (k + q2.2.1.2.1) (n + q2.2.1.2.2) rec q2.1 x1 q2.2.2
def mX6_turningFound (N cp : Nat) (rec : Nat → gM → Int32 → Option (gM × (Nat × Nat × Nat) × Int32)) (A : gM) (x1 : Int32) : Option (gM × (Nat × Nat × Nat) × Int32) := mX6_turningFound_b0 N cp 0 0 rec A x1
def mX6_tellingFound_b40 (N cp k n : Nat) (rec : Nat → gM → Int32 → Option (gM × (Nat × Nat × Nat) × Int32)) (A : gM) (s0 : Int32) : Option (gM × (Nat × Nat × Nat) × Int32) :=
  some (A, (cp, k, n), s0)
def mX6_tellingFound_b10 (N cp k n : Nat) (rec : Nat → gM → Int32 → Option (gM × (Nat × Nat × Nat) × Int32)) (A : gM) (x1 : Int32) (s0 : Int32) : Option (gM × (Nat × Nat × Nat) × Int32) :=
  if s0 = (-1) then
  some (A, (cp, k, n), (-1))
  else
  (mX6_own cp 62 A s0).bind fun q2 =>
  (mX6_pa cp q2 x1 2).bind fun q3 =>
  (mX6_pa cp q3.1 x1 4).bind fun q4 =>
  (mX6_inside N cp rec q4.1 q3.2 q4.2 s0).bind fun q5 =>
  mX6_tellingFound_b40 N q5.2.1.1 (k + q5.2.1.2.1) (n + q5.2.1.2.2) rec q5.1 q5.2.2
def mX6_tellingFound_b0 (N cp k n : Nat) (rec : Nat → gM → Int32 → Option (gM × (Nat × Nat × Nat) × Int32)) (A : gM) (x1 : Int32) : Option (gM × (Nat × Nat × Nat) × Int32) :=
  (mX6_pa cp A x1 1).bind fun q1 =>
  (rec cp q1.1 q1.2).bind fun q2 =>
  mX6_tellingFound_b10 N q2.2.1.1 (k + q2.2.1.2.1) (n + q2.2.1.2.2) rec q2.1 x1 q2.2.2
def mX6_tellingFound (N cp : Nat) (rec : Nat → gM → Int32 → Option (gM × (Nat × Nat × Nat) × Int32)) (A : gM) (x1 : Int32) : Option (gM × (Nat × Nat × Nat) × Int32) := mX6_tellingFound_b0 N cp 0 0 rec A x1
def mX6_axleFound_b45 (N cp k n : Nat) (rec : Nat → gM → Int32 → Option (gM × (Nat × Nat × Nat) × Int32)) (A : gM) (s0 : Int32) : Option (gM × (Nat × Nat × Nat) × Int32) :=
  some (A, (cp, k, n), s0)
def mX6_axleFound_b28 (N cp k n : Nat) (rec : Nat → gM → Int32 → Option (gM × (Nat × Nat × Nat) × Int32)) (A : gM) (x2 : Int32) (s0 : Int32) : Option (gM × (Nat × Nat × Nat) × Int32) :=
  if s0 = (-1) then
  mX6_axleFound_b45 N cp k n rec A (-1)
  else
  (mX6_node N cp A 3 x2 s0).bind fun q2 =>
  mX6_axleFound_b45 N q2.2.1.1 (k + q2.2.1.2.1) (n + q2.2.1.2.2) rec q2.1 q2.2.2
def mX6_axleFound_b10 (N cp k n : Nat) (rec : Nat → gM → Int32 → Option (gM × (Nat × Nat × Nat) × Int32)) (A : gM) (x1 : Int32) (s0 : Int32) : Option (gM × (Nat × Nat × Nat) × Int32) :=
  if s0 = (-1) then
  some (A, (cp, k, n), (-1))
  else
  (mX6_pa cp A x1 2).bind fun q2 =>
  (rec cp q2.1 q2.2).bind fun q3 =>
  mX6_axleFound_b28 N q3.2.1.1 (k + q3.2.1.2.1) (n + q3.2.1.2.2) rec q3.1 s0 q3.2.2
def mX6_axleFound_b0 (N cp k n : Nat) (rec : Nat → gM → Int32 → Option (gM × (Nat × Nat × Nat) × Int32)) (A : gM) (x1 : Int32) : Option (gM × (Nat × Nat × Nat) × Int32) :=
  (mX6_pa cp A x1 1).bind fun q1 =>
  (rec cp q1.1 q1.2).bind fun q2 =>
  mX6_axleFound_b10 N q2.2.1.1 (k + q2.2.1.2.1) (n + q2.2.1.2.2) rec q2.1 x1 q2.2.2
def mX6_axleFound (N cp : Nat) (rec : Nat → gM → Int32 → Option (gM × (Nat × Nat × Nat) × Int32)) (A : gM) (x1 : Int32) : Option (gM × (Nat × Nat × Nat) × Int32) := mX6_axleFound_b0 N cp 0 0 rec A x1
def mX6_endFound_b63 (N cp k n : Nat) (rec : Nat → gM → Int32 → Option (gM × (Nat × Nat × Nat) × Int32)) (A : gM) (s0 : Int32) : Option (gM × (Nat × Nat × Nat) × Int32) :=
  some (A, (cp, k, n), s0)
def mX6_endFound_b39 (N cp k n : Nat) (rec : Nat → gM → Int32 → Option (gM × (Nat × Nat × Nat) × Int32)) (A : gM) (x1 : Int32) (x3 : Int32) (x4 : Int32) (s1 : Int32) (s2 : Int32) : Option (gM × (Nat × Nat × Nat) × Int32) :=
  (mX6_join cp 1250 A s1 s2 x1).bind fun q1 =>
  if q1.2 = 0 then
  some (q1.1, (cp, k, n), (-1))
  else
  (mX6_pa cp q1.1 x1 4).bind fun q3 =>
  if q3.2 = 0 then
  mX6_endFound_b63 N cp k n rec q3.1 x3
  else
  mX6_endFound_b63 N cp k n rec q3.1 x4
def mX6_endFound_b27 (N cp k n : Nat) (rec : Nat → gM → Int32 → Option (gM × (Nat × Nat × Nat) × Int32)) (A : gM) (x1 : Int32) (x2 : Int32) (x3 : Int32) (s0 : Int32) : Option (gM × (Nat × Nat × Nat) × Int32) :=
  (mX6_node N cp A 3 x3 s0).bind fun q1 =>
  mX6_endFound_b39 N q1.2.1.1 (k + q1.2.1.2.1) (n + q1.2.1.2.2) rec q1.1 x1 x3 s0 x2 q1.2.2
def mX6_endFound_b22 (N cp k n : Nat) (rec : Nat → gM → Int32 → Option (gM × (Nat × Nat × Nat) × Int32)) (A : gM) (x1 : Int32) (x2 : Int32) (s0 : Int32) : Option (gM × (Nat × Nat × Nat) × Int32) :=
  (mX6_variable N cp A).bind fun q1 =>
  mX6_endFound_b27 N q1.2.1.1 (k + q1.2.1.2.1) (n + q1.2.1.2.2) rec q1.1 x1 x2 s0 q1.2.2
def mX6_endFound_b10 (N cp k n : Nat) (rec : Nat → gM → Int32 → Option (gM × (Nat × Nat × Nat) × Int32)) (A : gM) (x1 : Int32) (s0 : Int32) : Option (gM × (Nat × Nat × Nat) × Int32) :=
  if s0 = (-1) then
  some (A, (cp, k, n), (-1))
  else
  (mX6_variable N cp A).bind fun q2 =>
  mX6_endFound_b22 N q2.2.1.1 (k + q2.2.1.2.1) (n + q2.2.1.2.2) rec q2.1 x1 s0 q2.2.2
def mX6_endFound_b0 (N cp k n : Nat) (rec : Nat → gM → Int32 → Option (gM × (Nat × Nat × Nat) × Int32)) (A : gM) (x1 : Int32) : Option (gM × (Nat × Nat × Nat) × Int32) :=
  (mX6_pa cp A x1 1).bind fun q1 =>
  (rec cp q1.1 q1.2).bind fun q2 =>
  mX6_endFound_b10 N q2.2.1.1 (k + q2.2.1.2.1) (n + q2.2.1.2.2) rec q2.1 x1 q2.2.2
def mX6_endFound (N cp : Nat) (rec : Nat → gM → Int32 → Option (gM × (Nat × Nat × Nat) × Int32)) (A : gM) (x1 : Int32) : Option (gM × (Nat × Nat × Nat) × Int32) := mX6_endFound_b0 N cp 0 0 rec A x1
def mX6_choiceFound_b32 (N cp k n : Nat) (rec : Nat → gM → Int32 → Option (gM × (Nat × Nat × Nat) × Int32)) (A : gM) : Option (gM × (Nat × Nat × Nat) × Int32) :=
  some (A, (cp, k, n), (-1))
def mX6_choiceFound_b86 (N cp k n : Nat) (rec : Nat → gM → Int32 → Option (gM × (Nat × Nat × Nat) × Int32)) (A : gM) (s0 : Int32) : Option (gM × (Nat × Nat × Nat) × Int32) :=
  some (A, (cp, k, n), s0)
def mX6_choiceFound_b85 (N cp k n : Nat) (rec : Nat → gM → Int32 → Option (gM × (Nat × Nat × Nat) × Int32)) (A : gM) : Option (gM × (Nat × Nat × Nat) × Int32) :=
  mX6_choiceFound_b86 N cp k n rec A (-1)
def mX6_choiceFound_b62 (N cp k n : Nat) (rec : Nat → gM → Int32 → Option (gM × (Nat × Nat × Nat) × Int32)) (A : gM) (x1 : Int32) (x3 : Int32) (s0 : Int32) : Option (gM × (Nat × Nat × Nat) × Int32) :=
  if s0 = (-1) then
  mX6_choiceFound_b85 N cp k n rec A
  else
  (mX6_join cp 1250 A x3 s0 x1).bind fun q2 =>
  if q2.2 = 0 then
  mX6_choiceFound_b85 N cp k n rec q2.1
  else
  mX6_choiceFound_b86 N cp k n rec q2.1 x3
def mX6_choiceFound_b44 (N cp k n : Nat) (rec : Nat → gM → Int32 → Option (gM × (Nat × Nat × Nat) × Int32)) (A : gM) (x1 : Int32) (s0 : Int32) : Option (gM × (Nat × Nat × Nat) × Int32) :=
  if s0 = (-1) then
  some (A, (cp, k, n), (-1))
  else
  (mX6_pa cp A x1 3).bind fun q2 =>
  (rec cp q2.1 q2.2).bind fun q3 =>
  mX6_choiceFound_b62 N q3.2.1.1 (k + q3.2.1.2.1) (n + q3.2.1.2.2) rec q3.1 x1 s0 q3.2.2
def mX6_choiceFound_b25 (N cp k n : Nat) (rec : Nat → gM → Int32 → Option (gM × (Nat × Nat × Nat) × Int32)) (A : gM) (x1 : Int32) (s1 : Int32) (s2 : Int32) : Option (gM × (Nat × Nat × Nat) × Int32) :=
  (mX6_join cp 1250 A s1 s2 x1).bind fun q1 =>
  if q1.2 = 0 then
  mX6_choiceFound_b32 N cp k n rec q1.1
  else
  (mX6_pa cp q1.1 x1 2).bind fun q3 =>
  (rec cp q3.1 q3.2).bind fun q4 =>
  mX6_choiceFound_b44 N q4.2.1.1 (k + q4.2.1.2.1) (n + q4.2.1.2.2) rec q4.1 x1 q4.2.2
def mX6_choiceFound_b10 (N cp k n : Nat) (rec : Nat → gM → Int32 → Option (gM × (Nat × Nat × Nat) × Int32)) (A : gM) (x1 : Int32) (s0 : Int32) : Option (gM × (Nat × Nat × Nat) × Int32) :=
  if s0 = (-1) then
  mX6_choiceFound_b32 N cp k n rec A
  else
  (mX6_node N cp A 1 (-1) (-1)).bind fun q2 =>
  mX6_choiceFound_b25 N q2.2.1.1 (k + q2.2.1.2.1) (n + q2.2.1.2.2) rec q2.1 x1 s0 q2.2.2
def mX6_choiceFound_b0 (N cp k n : Nat) (rec : Nat → gM → Int32 → Option (gM × (Nat × Nat × Nat) × Int32)) (A : gM) (x1 : Int32) : Option (gM × (Nat × Nat × Nat) × Int32) :=
  (mX6_pa cp A x1 1).bind fun q1 =>
  (rec cp q1.1 q1.2).bind fun q2 =>
  mX6_choiceFound_b10 N q2.2.1.1 (k + q2.2.1.2.1) (n + q2.2.1.2.2) rec q2.1 x1 q2.2.2
def mX6_choiceFound (N cp : Nat) (rec : Nat → gM → Int32 → Option (gM × (Nat × Nat × Nat) × Int32)) (A : gM) (x1 : Int32) : Option (gM × (Nat × Nat × Nat) × Int32) := mX6_choiceFound_b0 N cp 0 0 rec A x1
def mX6_sortFound_b106 (N cp k n : Nat) (rec : Nat → gM → Int32 → Option (gM × (Nat × Nat × Nat) × Int32)) (A : gM) (s0 : Int32) : Option (gM × (Nat × Nat × Nat) × Int32) :=
  some (A, (cp, k, n), s0)
def mX6_sortFound_b100 (N cp k n : Nat) (rec : Nat → gM → Int32 → Option (gM × (Nat × Nat × Nat) × Int32)) (A : gM) (s0 : Int32) : Option (gM × (Nat × Nat × Nat) × Int32) :=
  some (A, (cp, k, n), s0)
def mX6_sortFound_b94 (N cp k n : Nat) (rec : Nat → gM → Int32 → Option (gM × (Nat × Nat × Nat) × Int32)) (A : gM) (s0 : Int32) : Option (gM × (Nat × Nat × Nat) × Int32) :=
  some (A, (cp, k, n), s0)
def mX6_sortFound_b88 (N cp k n : Nat) (rec : Nat → gM → Int32 → Option (gM × (Nat × Nat × Nat) × Int32)) (A : gM) (s0 : Int32) : Option (gM × (Nat × Nat × Nat) × Int32) :=
  some (A, (cp, k, n), s0)
def mX6_sortFound_b82 (N cp k n : Nat) (rec : Nat → gM → Int32 → Option (gM × (Nat × Nat × Nat) × Int32)) (A : gM) (s0 : Int32) : Option (gM × (Nat × Nat × Nat) × Int32) :=
  some (A, (cp, k, n), s0)
def mX6_sortFound_b76 (N cp k n : Nat) (rec : Nat → gM → Int32 → Option (gM × (Nat × Nat × Nat) × Int32)) (A : gM) (s0 : Int32) : Option (gM × (Nat × Nat × Nat) × Int32) :=
  some (A, (cp, k, n), s0)
def mX6_sortFound_b70 (N cp k n : Nat) (rec : Nat → gM → Int32 → Option (gM × (Nat × Nat × Nat) × Int32)) (A : gM) (s0 : Int32) : Option (gM × (Nat × Nat × Nat) × Int32) :=
  some (A, (cp, k, n), s0)
def mX6_sortFound_b64 (N cp k n : Nat) (rec : Nat → gM → Int32 → Option (gM × (Nat × Nat × Nat) × Int32)) (A : gM) (s0 : Int32) : Option (gM × (Nat × Nat × Nat) × Int32) :=
  some (A, (cp, k, n), s0)
def mX6_sortFound_b52 (N cp k n : Nat) (rec : Nat → gM → Int32 → Option (gM × (Nat × Nat × Nat) × Int32)) (A : gM) (x1 : Int32) : Option (gM × (Nat × Nat × Nat) × Int32) :=
  (mX6_pa cp A x1 0).bind fun q1 =>
  (mX6_node N cp q1.1 q1.2 (-1) (-1)).bind fun q2 =>
  mX6_sortFound_b64 N q2.2.1.1 (k + q2.2.1.2.1) (n + q2.2.1.2.2) rec q2.1 q2.2.2
def mX6_sortFound_b0 (N cp k n : Nat) (rec : Nat → gM → Int32 → Option (gM × (Nat × Nat × Nat) × Int32)) (A : gM) (x1 : Int32) : Option (gM × (Nat × Nat × Nat) × Int32) :=
  (mX6_pa cp A x1 0).bind fun q1 =>
  if q1.2 = 0 then
  mX6_sortFound_b52 N cp k n rec q1.1 x1
  else if q1.2 = 1 then
  mX6_sortFound_b52 N cp k n rec q1.1 x1
  else if q1.2 = 2 then
  (mX6_nameFound N cp q1.1 x1).bind fun q5 =>
  mX6_sortFound_b70 N q5.2.1.1 (k + q5.2.1.2.1) (n + q5.2.1.2.2) rec q5.1 q5.2.2
  else if q1.2 = 3 then
  (mX6_wheelFound N cp rec q1.1 x1).bind fun q7 =>
  mX6_sortFound_b76 N q7.2.1.1 (k + q7.2.1.2.1) (n + q7.2.1.2.2) rec q7.1 q7.2.2
  else if q1.2 = 4 then
  (mX6_turningFound N cp rec q1.1 x1).bind fun q9 =>
  mX6_sortFound_b82 N q9.2.1.1 (k + q9.2.1.2.1) (n + q9.2.1.2.2) rec q9.1 q9.2.2
  else if q1.2 = 5 then
  (mX6_tellingFound N cp rec q1.1 x1).bind fun q11 =>
  mX6_sortFound_b88 N q11.2.1.1 (k + q11.2.1.2.1) (n + q11.2.1.2.2) rec q11.1 q11.2.2
  else if q1.2 = 6 then
  (mX6_axleFound N cp rec q1.1 x1).bind fun q13 =>
  mX6_sortFound_b94 N q13.2.1.1 (k + q13.2.1.2.1) (n + q13.2.1.2.2) rec q13.1 q13.2.2
  else if q1.2 = 7 then
  (mX6_endFound N cp rec q1.1 x1).bind fun q15 =>
  mX6_sortFound_b100 N q15.2.1.1 (k + q15.2.1.2.1) (n + q15.2.1.2.2) rec q15.1 q15.2.2
  else (mX6_choiceFound N cp rec q1.1 x1).bind fun q16 =>
  mX6_sortFound_b106 N q16.2.1.1 (k + q16.2.1.2.1) (n + q16.2.1.2.2) rec q16.1 q16.2.2
def mX6_sortFound (N cp : Nat) (rec : Nat → gM → Int32 → Option (gM × (Nat × Nat × Nat) × Int32)) (A : gM) (x1 : Int32) : Option (gM × (Nat × Nat × Nat) × Int32) := mX6_sortFound_b0 N cp 0 0 rec A x1
def mX6_found_b31 (N cp k n : Nat) (rec : Nat → gM → Int32 → Option (gM × (Nat × Nat × Nat) × Int32)) (A : gM) (s0 : Int32) : Option (gM × (Nat × Nat × Nat) × Int32) :=
  some (A, (cp, k, n), s0)
def mX6_found_b30 (N cp k n : Nat) (rec : Nat → gM → Int32 → Option (gM × (Nat × Nat × Nat) × Int32)) (A : gM) (x2 : Int32) : Option (gM × (Nat × Nat × Nat) × Int32) :=
  mX6_found_b31 N cp k n rec A x2
def mX6_found_b5 (N cp k n : Nat) (rec : Nat → gM → Int32 → Option (gM × (Nat × Nat × Nat) × Int32)) (A : gM) (x1 : Int32) (s0 : Int32) : Option (gM × (Nat × Nat × Nat) × Int32) :=
  if s0 = (-1) then
  mX6_found_b30 N cp k n rec A s0
  else
  (mX6_codes cp 1250 A s0).bind fun q2 =>
  if q2.2 ≤ 60 then
  mX6_found_b30 N cp k n rec q2.1 s0
  else
  (mX6_failed cp q2.1 4 x1).bind fun q4 =>
  mX6_found_b31 N cp k n rec q4.1 q4.2
def mX6_found_b0 (N cp k n : Nat) (rec : Nat → gM → Int32 → Option (gM × (Nat × Nat × Nat) × Int32)) (A : gM) (x1 : Int32) : Option (gM × (Nat × Nat × Nat) × Int32) :=
  (mX6_sortFound N cp rec A x1).bind fun q1 =>
  mX6_found_b5 N q1.2.1.1 (k + q1.2.1.2.1) (n + q1.2.1.2.2) rec q1.1 x1 q1.2.2
def mX6_found_body (N cp : Nat) (rec : Nat → gM → Int32 → Option (gM × (Nat × Nat × Nat) × Int32)) (A : gM) (x1 : Int32) : Option (gM × (Nat × Nat × Nat) × Int32) := mX6_found_b0 N cp 0 0 rec A x1
def mX6_found (N : Nat) : Nat → Nat → gM → Int32 → Option (gM × (Nat × Nat × Nat) × Int32)
  | 0 => fun _ _ _ => none
  | f + 1 => fun cp => mX6_found_body N cp (mX6_found N f)
def mX6_typeOf_b25 (N cp k n : Nat) (A : gM) (s0 : Int32) : Option (gM × (Nat × Nat × Nat) × Int32) :=
  some (A, (cp, k, n), s0)
def mX6_typeOf_b0 (N cp k n : Nat) (A : gM) (x1 : Int32) : Option (gM × (Nat × Nat × Nat) × Int32) :=
  g_let (g_up A 183 3 0) fun A1 =>
  g_let (g_up A1 183 9 0) fun A2 =>
  g_let (g_up A2 183 12 0) fun A3 =>
  g_let (g_up A3 183 13 (-1)) fun A4 =>
  (mX6_found N 45 cp A4 x1).bind fun q5 =>
  mX6_typeOf_b25 N q5.2.1.1 (k + q5.2.1.2.1) (n + q5.2.1.2.2) q5.1 q5.2.2
def mX6_typeOf (N cp : Nat) (A : gM) (x1 : Int32) : Option (gM × (Nat × Nat × Nat) × Int32) := mX6_typeOf_b0 N cp 0 0 A x1
def mX6_row_b32 (N cp k n : Nat) (K32 : Nat → Nat → Nat → gM → Int32 → Nat → Nat → Int32 → Option (gM × (Nat × Nat × Nat) × Nat)) (A : gM) (x2 : Int32) (wx3 : Nat) (wx4 : Nat) (x5 : Int32) : Option (gM × (Nat × Nat × Nat) × Nat) :=
  if 60 < x5 then
  (mX6_write cp 62 A x2 N wx3 0 (N + 1) wx4).bind fun q2 =>
  some (q2.1, (cp, k, n), wx3)
  else
  if g_in x5 wx4 = true then g_let (g_up A (N + 1) x5.toNatClampNeg (-1)) fun A4 =>
  g_let (x5 + 1) fun v5 =>
  K32 cp k n A4 x2 wx3 wx4 v5
  else none
def mX6_row_L32 (N : Nat) : Nat → Nat → Nat → Nat → gM → Int32 → Nat → Nat → Int32 → Option (gM × (Nat × Nat × Nat) × Nat)
  | 0 => fun _ _ _ _ _ _ _ _ => none
  | f + 1 => fun cp k n => mX6_row_b32 N cp k n (mX6_row_L32 N f)
def mX6_row_b27 (N cp k n : Nat) (A : gM) (x2 : Int32) (wx3 : Nat) (ws0 : Nat) : Option (gM × (Nat × Nat × Nat) × Nat) :=
  mX6_row_L32 N gF cp k n A x2 wx3 ws0 0
def mX6_row_b22 (N cp k n : Nat) (A : gM) (x2 : Int32) (ws0 : Nat) : Option (gM × (Nat × Nat × Nat) × Nat) :=
  if ¬ 61 < (0 : Int32) ∧ (61 : Int32).toNatClampNeg ≤ 100000 then
  mX6_row_b27 N cp (k + 1) (n + (61 : Int32).toNatClampNeg) (g_row A (N + 1) (fun _ => 0)) x2 ws0 ((61 : Int32).toNatClampNeg)
  else none
def mX6_row_b14 (N cp k n : Nat) (A : gM) (ws0 : Nat) : Option (gM × (Nat × Nat × Nat) × Nat) :=
  some (A, (cp, k, n), ws0)
def mX6_row_b5 (N cp k n : Nat) (A : gM) (s0 : Int32) : Option (gM × (Nat × Nat × Nat) × Nat) :=
  if s0 = (-1) then
  if ¬ 0 < (0 : Int32) ∧ (0 : Int32).toNatClampNeg ≤ 100000 then
  mX6_row_b14 N cp (k + 1) (n + (0 : Int32).toNatClampNeg) (g_row A N (fun _ => 0)) ((0 : Int32).toNatClampNeg)
  else none
  else
  (mX6_codes cp 1250 A s0).bind fun q2 =>
  if ¬ q2.2 < (0 : Int32) ∧ q2.2.toNatClampNeg ≤ 100000 then
  mX6_row_b22 N cp (k + 1) (n + q2.2.toNatClampNeg) (g_row q2.1 N (fun _ => 0)) s0 q2.2.toNatClampNeg
  else none
def mX6_row_b0 (N cp k n : Nat) (A : gM) (x1 : Int32) : Option (gM × (Nat × Nat × Nat) × Nat) :=
  (mX6_typeOf N cp A x1).bind fun q1 =>
  mX6_row_b5 N q1.2.1.1 (k + q1.2.1.2.1) (n + q1.2.1.2.2) q1.1 q1.2.2
def mX6_row (N cp : Nat) (A : gM) (x1 : Int32) : Option (gM × (Nat × Nat × Nat) × Nat) := mX6_row_b0 N cp 0 0 A x1
def mX6_typeTold_b77 (N cp k n : Nat) (K77 : Nat → Nat → Nat → gM → Int32 → Nat → Int32 → Int32 → Option (gM × (Nat × Nat × Nat) × Int32)) (A : gM) (x4 : Int32) (wx5 : Nat) (x6 : Int32) (x7 : Int32) : Option (gM × (Nat × Nat × Nat) × Int32) :=
  if x6 ≤ x7 then
  some (A, (cp, k, n), ((x4 - 10) + 1))
  else
  if g_in x7 wx5 = true then
  g_let (A N x7.toNatClampNeg) fun v3 =>
  g_let (if x4 < v3 then v3 else x4) fun v4 =>
  g_let (x7 + 1) fun v5 =>
  K77 cp k n A v4 wx5 x6 v5
  else none
def mX6_typeTold_L77 (N : Nat) : Nat → Nat → Nat → Nat → gM → Int32 → Nat → Int32 → Int32 → Option (gM × (Nat × Nat × Nat) × Int32)
  | 0 => fun _ _ _ _ _ _ _ _ => none
  | f + 1 => fun cp k n => mX6_typeTold_b77 N cp k n (mX6_typeTold_L77 N f)
def mX6_typeTold_b67 (N cp k n : Nat) (A : gM) (x4 : Int32) (ws0 : Nat) : Option (gM × (Nat × Nat × Nat) × Int32) :=
  g_let (Int32.ofNat ws0) fun v1 =>
  mX6_typeTold_L77 N gF cp k n A x4 ws0 v1 0
def mX6_typeTold_b57 (N cp k n : Nat) (A : gM) (s0 : Int32) : Option (gM × (Nat × Nat × Nat) × Int32) :=
  some (A, (cp, k, n), s0)
def mX6_typeTold_b26 (N cp k n : Nat) (A : gM) (s0 : Int32) : Option (gM × (Nat × Nat × Nat) × Int32) :=
  some (A, (cp, k, n), s0)
def mX6_typeTold_b5 (N cp k n : Nat) (A : gM) (x1 : Int32) (x2 : Int32) (s0 : Int32) : Option (gM × (Nat × Nat × Nat) × Int32) :=
  if 2 ≤ x2 then
  if s0 = (-1) then
  some (A, (cp, k, n), 0)
  else
  if x2 = 3 then
  (mX6_row N cp A x1).bind fun q4 =>
  mX6_typeTold_b67 N q4.2.1.1 (k + q4.2.1.2.1) (n + q4.2.1.2.2) q4.1 9 q4.2.2
  else
  if x2 = 2 then
  (mX6_codes cp 1250 A s0).bind fun q7 =>
  mX6_typeTold_b57 N cp k n q7.1 q7.2
  else
  (mX6_deep cp 62 A s0).bind fun q6 =>
  mX6_typeTold_b57 N cp k n q6.1 q6.2
  else
  if x2 = 0 then
  mX6_typeTold_b26 N cp k n A (A 183 12)
  else
  mX6_typeTold_b26 N cp k n A (A 183 13)
def mX6_typeTold_b0 (N cp k n : Nat) (A : gM) (x1 : Int32) (x2 : Int32) : Option (gM × (Nat × Nat × Nat) × Int32) :=
  (mX6_typeOf N cp A x1).bind fun q1 =>
  mX6_typeTold_b5 N q1.2.1.1 (k + q1.2.1.2.1) (n + q1.2.1.2.2) q1.1 x1 x2 q1.2.2
def mX6_typeTold (N cp : Nat) (A : gM) (x1 : Int32) (x2 : Int32) : Option (gM × (Nat × Nat × Nat) × Int32) := mX6_typeTold_b0 N cp 0 0 A x1 x2
def mX6_type_b36 (N cp k n : Nat) (A : gM) (s0 : Int32) : Option (gM × (Nat × Nat × Nat) × Int32) :=
  some (A, (cp, k, n), s0)
def mX6_type_b31 (N cp k n : Nat) (A : gM) : Option (gM × (Nat × Nat × Nat) × Int32) :=
  (mX6_fail cp A 1).bind fun q1 =>
  mX6_type_b36 N cp k n q1.1 q1.2
def mX6_type_b28 (N cp k n : Nat) (A : gM) (s0 : Int32) : Option (gM × (Nat × Nat × Nat) × Int32) :=
  mX6_type_b36 N cp k n A s0
def mX6_type_b0 (N cp k n : Nat) (A : gM) (x1 : Int32) (x2 : Int32) : Option (gM × (Nat × Nat × Nat) × Int32) :=
  g_let (g_up A 183 0 0) fun A1 =>
  (mX6_isPart cp A1 x1).bind fun q2 =>
  if q2.2 = 0 then
  mX6_type_b31 N cp k n q2.1
  else
  (mX6_isIn cp q2.1 x2 0 4).bind fun q4 =>
  if q4.2 = 0 then
  mX6_type_b31 N cp k n q4.1
  else
  (mX6_typeTold N cp q4.1 x1 x2).bind fun q6 =>
  mX6_type_b28 N q6.2.1.1 (k + q6.2.1.2.1) (n + q6.2.1.2.2) q6.1 q6.2.2
def mX6_type (N cp : Nat) (A : gM) (x1 : Int32) (x2 : Int32) : Option (gM × (Nat × Nat × Nat) × Int32) := mX6_type_b0 N cp 0 0 A x1 x2
def mX6_code_b48 (N cp k n : Nat) (A : gM) (s0 : Int32) : Option (gM × (Nat × Nat × Nat) × Int32) :=
  some (A, (cp, k, n), s0)
def mX6_code_b24 (N cp k n : Nat) (A : gM) (x2 : Int32) (ws0 : Nat) : Option (gM × (Nat × Nat × Nat) × Int32) :=
  (mX6_isIn cp A x2 0 ((Int32.ofNat ws0) - 1)).bind fun q1 =>
  if q1.2 = 0 then
  (mX6_fail cp q1.1 1).bind fun q3 =>
  mX6_code_b48 N cp k n q3.1 q3.2
  else
  if g_in x2 ws0 = true then
  mX6_code_b48 N cp k n q1.1 (q1.1 N x2.toNatClampNeg)
  else none
def mX6_code_b0 (N cp k n : Nat) (A : gM) (x1 : Int32) (x2 : Int32) : Option (gM × (Nat × Nat × Nat) × Int32) :=
  g_let (g_up A 183 0 0) fun A1 =>
  (mX6_isPart cp A1 x1).bind fun q2 =>
  if q2.2 = 0 then
  (mX6_fail cp q2.1 1).bind fun q5 =>
  some (q5.1, (cp, k, n), q5.2)
  else
  (mX6_row N cp q2.1 x1).bind fun q4 =>
  mX6_code_b24 N q4.2.1.1 (k + q4.2.1.2.1) (n + q4.2.1.2.2) q4.1 x2 q4.2.2
def mX6_code (N cp : Nat) (A : gM) (x1 : Int32) (x2 : Int32) : Option (gM × (Nat × Nat × Nat) × Int32) := mX6_code_b0 N cp 0 0 A x1 x2
def mX6_counted_b42 (N cp k n : Nat) (K4 : Nat → Nat → Nat → gM → Int32 → Int32 → Int32 → Option (gM × (Nat × Nat × Nat) × Int32)) (A : gM) (x1 : Int32) (x3 : Int32) (s0 : Int32) (s1 : Int32) : Option (gM × (Nat × Nat × Nat) × Int32) :=
  g_let (s0 + s1) fun v1 =>
  g_let (x3 + 1) fun v2 =>
  K4 cp k n A x1 v1 v2
def mX6_counted_b37 (N cp k n : Nat) (K4 : Nat → Nat → Nat → gM → Int32 → Int32 → Int32 → Option (gM × (Nat × Nat × Nat) × Int32)) (A : gM) (x1 : Int32) (x3 : Int32) (s0 : Int32) : Option (gM × (Nat × Nat × Nat) × Int32) :=
  mX6_counted_b42 N cp k n K4 A x1 x3 s0 1
def mX6_counted_b22 (N cp k n : Nat) (K4 : Nat → Nat → Nat → gM → Int32 → Int32 → Int32 → Option (gM × (Nat × Nat × Nat) × Int32)) (A : gM) (x1 : Int32) (x2 : Int32) (x3 : Int32) : Option (gM × (Nat × Nat × Nat) × Int32) :=
  if x1 = 0 then
  mX6_counted_b37 N cp k n K4 A x1 x3 x2
  else
  if (A 183 12) = (x1 - 1) then
  mX6_counted_b37 N cp k n K4 A x1 x3 x2
  else
  mX6_counted_b42 N cp k n K4 A x1 x3 x2 0
def mX6_counted_b21 (N cp k n : Nat) (K4 : Nat → Nat → Nat → gM → Int32 → Int32 → Int32 → Option (gM × (Nat × Nat × Nat) × Int32)) (A : gM) (x1 : Int32) (x2 : Int32) (x3 : Int32) (s0 : Int32) : Option (gM × (Nat × Nat × Nat) × Int32) :=
  mX6_counted_b22 N cp k n K4 A x1 x2 x3
def mX6_counted_b4 (N cp k n : Nat) (K4 : Nat → Nat → Nat → gM → Int32 → Int32 → Int32 → Option (gM × (Nat × Nat × Nat) × Int32)) (A : gM) (x1 : Int32) (x2 : Int32) (x3 : Int32) : Option (gM × (Nat × Nat × Nat) × Int32) :=
  if (A 183 1) ≤ x3 then
  some (A, (cp, k, n), x2)
  else
  if x1 ≤ 0 then
  mX6_counted_b22 N cp k n K4 A x1 x2 x3
  else
  (mX6_typeOf N cp A x3).bind fun q3 =>
  mX6_counted_b21 N q3.2.1.1 (k + q3.2.1.2.1) (n + q3.2.1.2.2) K4 q3.1 x1 x2 x3 q3.2.2
def mX6_counted_L4 (N : Nat) : Nat → Nat → Nat → Nat → gM → Int32 → Int32 → Int32 → Option (gM × (Nat × Nat × Nat) × Int32)
  | 0 => fun _ _ _ _ _ _ _ => none
  | f + 1 => fun cp k n => mX6_counted_b4 N cp k n (mX6_counted_L4 N f)
def mX6_counted_b0 (N cp k n : Nat) (A : gM) (x1 : Int32) : Option (gM × (Nat × Nat × Nat) × Int32) :=
  mX6_counted_L4 N gF cp k n A x1 0 0
def mX6_counted (N cp : Nat) (A : gM) (x1 : Int32) : Option (gM × (Nat × Nat × Nat) × Int32) := mX6_counted_b0 N cp 0 0 A x1
def mX6_count_b27 (N cp k n : Nat) (A : gM) (s0 : Int32) : Option (gM × (Nat × Nat × Nat) × Int32) :=
  some (A, (cp, k, n), s0)
def mX6_count_b19 (N cp k n : Nat) (A : gM) (s0 : Int32) : Option (gM × (Nat × Nat × Nat) × Int32) :=
  mX6_count_b27 N cp k n A s0
def mX6_count_b0 (N cp k n : Nat) (A : gM) (x1 : Int32) : Option (gM × (Nat × Nat × Nat) × Int32) :=
  g_let (g_up A 183 0 0) fun A1 =>
  (mX6_isIn cp A1 x1 0 5).bind fun q2 =>
  if q2.2 = 0 then
  (mX6_fail cp q2.1 1).bind fun q4 =>
  mX6_count_b27 N cp k n q4.1 q4.2
  else
  (mX6_counted N cp q2.1 x1).bind fun q5 =>
  mX6_count_b19 N q5.2.1.1 (k + q5.2.1.2.1) (n + q5.2.1.2.2) q5.1 q5.2.2
def mX6_count (N cp : Nat) (A : gM) (x1 : Int32) : Option (gM × (Nat × Nat × Nat) × Int32) := mX6_count_b0 N cp 0 0 A x1
def mX6_same_b107 (N cp k n : Nat) (A : gM) (x5 : Int32) : Option (gM × (Nat × Nat × Nat) × Int32) :=
  if (x5 : Int32) = 0 ∨ (x5 : Int32) = 1 then some (A, (cp, k, n), x5) else none
def mX6_same_b99 (N cp k n : Nat) (K70 : Nat → Nat → Nat → gM → Nat → Nat → Int32 → Int32 → Option (gM × (Nat × Nat × Nat) × Int32)) (A : gM) (wx3 : Nat) (wx4 : Nat) (x6 : Int32) (s0 : Int32) : Option (gM × (Nat × Nat × Nat) × Int32) :=
  g_let (x6 + 1) fun v1 =>
  K70 cp k n A wx3 wx4 s0 v1
def mX6_same_b70 (N cp k n : Nat) (K70 : Nat → Nat → Nat → gM → Nat → Nat → Int32 → Int32 → Option (gM × (Nat × Nat × Nat) × Int32)) (A : gM) (wx3 : Nat) (wx4 : Nat) (x5 : Int32) (x6 : Int32) : Option (gM × (Nat × Nat × Nat) × Int32) :=
  if x5 = 0 then
  mX6_same_b107 N cp k n A x5
  else
  if (Int32.ofNat wx3) ≤ x6 then
  mX6_same_b107 N cp k n A x5
  else
  if g_in x6 wx3 = true then
  if g_in x6 wx4 = true then
  if (A N x6.toNatClampNeg) = (A (N + 1) x6.toNatClampNeg) then
  mX6_same_b99 N cp k n K70 A wx3 wx4 x6 1
  else
  mX6_same_b99 N cp k n K70 A wx3 wx4 x6 0
  else none
  else none
def mX6_same_L70 (N : Nat) : Nat → Nat → Nat → Nat → gM → Nat → Nat → Int32 → Int32 → Option (gM × (Nat × Nat × Nat) × Int32)
  | 0 => fun _ _ _ _ _ _ _ _ => none
  | f + 1 => fun cp k n => mX6_same_b70 N cp k n (mX6_same_L70 N f)
def mX6_same_b65 (N cp k n : Nat) (A : gM) (wx3 : Nat) (wx4 : Nat) (s0 : Int32) : Option (gM × (Nat × Nat × Nat) × Int32) :=
  mX6_same_L70 N gF cp k n A wx3 wx4 s0 0
def mX6_same_b64 (N cp k n : Nat) (A : gM) (wx3 : Nat) (wx4 : Nat) : Option (gM × (Nat × Nat × Nat) × Int32) :=
  mX6_same_b65 N cp k n A wx3 wx4 0
def mX6_same_b45 (N cp k n : Nat) (A : gM) (wx3 : Nat) (ws0 : Nat) : Option (gM × (Nat × Nat × Nat) × Int32) :=
  if (Int32.ofNat wx3) ≤ 0 then
  mX6_same_b64 N cp k n A wx3 ws0
  else
  if (Int32.ofNat wx3) = (Int32.ofNat ws0) then
  mX6_same_b65 N cp k n A wx3 ws0 1
  else
  mX6_same_b64 N cp k n A wx3 ws0
def mX6_same_b39 (N cp k n : Nat) (A : gM) (x2 : Int32) (ws0 : Nat) : Option (gM × (Nat × Nat × Nat) × Int32) :=
  (mX6_row (N + 1) cp A x2).bind fun q1 =>
  mX6_same_b45 N q1.2.1.1 (k + q1.2.1.2.1) (n + q1.2.1.2.2) q1.1 ws0 q1.2.2
def mX6_same_b22 (N cp k n : Nat) (A : gM) (x1 : Int32) (x2 : Int32) (s1 : Int32) : Option (gM × (Nat × Nat × Nat) × Int32) :=
  g_let (g_up A 183 0 s1) fun A1 =>
  if (A1 183 0) = 0 then
  (mX6_row N cp A1 x1).bind fun q3 =>
  mX6_same_b39 N q3.2.1.1 (k + q3.2.1.2.1) (n + q3.2.1.2.2) q3.1 x2 q3.2.2
  else
  if (0 : Int32) = 0 ∨ (0 : Int32) = 1 then some (A1, (cp, k, n), 0) else none
def mX6_same_b21 (N cp k n : Nat) (A : gM) (x1 : Int32) (x2 : Int32) : Option (gM × (Nat × Nat × Nat) × Int32) :=
  mX6_same_b22 N cp k n A x1 x2 1
def mX6_same_b0 (N cp k n : Nat) (A : gM) (x1 : Int32) (x2 : Int32) : Option (gM × (Nat × Nat × Nat) × Int32) :=
  (mX6_isPart cp A x1).bind fun q1 =>
  if q1.2 = 0 then
  mX6_same_b21 N cp k n q1.1 x1 x2
  else
  (mX6_isPart cp q1.1 x2).bind fun q3 =>
  if q3.2 = 0 then
  mX6_same_b21 N cp k n q3.1 x1 x2
  else
  mX6_same_b22 N cp k n q3.1 x1 x2 0
def mX6_same (N cp : Nat) (A : gM) (x1 : Int32) (x2 : Int32) : Option (gM × (Nat × Nat × Nat) × Int32) := mX6_same_b0 N cp 0 0 A x1 x2
def mX6_fits_b58 (N cp k n : Nat) (A : gM) : Option (gM × (Nat × Nat × Nat) × Int32) :=
  if (0 : Int32) = 0 ∨ (0 : Int32) = 1 then some (A, (cp, k, n), 0) else none
def mX6_fits_b218 (N cp k n : Nat) (K103 : Nat → Nat → Nat → gM → Nat → Nat → Int32 → Nat → Int32 → Int32 → Option (gM × (Nat × Nat × Nat) × Int32)) (A : gM) (wx4 : Nat) (wx5 : Nat) (x6 : Int32) (wx7 : Nat) (x8 : Int32) (x9 : Int32) : Option (gM × (Nat × Nat × Nat) × Int32) :=
  g_let (x9 + 1) fun v1 =>
  K103 cp k n A wx4 wx5 x6 wx7 x8 v1
def mX6_fits_b177 (N cp k n : Nat) (K103 : Nat → Nat → Nat → gM → Nat → Nat → Int32 → Nat → Int32 → Int32 → Option (gM × (Nat × Nat × Nat) × Int32)) (K177 : Nat → Nat → Nat → gM → Nat → Nat → Int32 → Nat → Int32 → Int32 → Int32 → Int32 → Int32 → Option (gM × (Nat × Nat × Nat) × Int32)) (A : gM) (wx4 : Nat) (wx5 : Nat) (x6 : Int32) (wx7 : Nat) (x8 : Int32) (x9 : Int32) (x11 : Int32) (x12 : Int32) (x13 : Int32) : Option (gM × (Nat × Nat × Nat) × Int32) :=
  if (x11 - x6) ≤ x13 then
  mX6_fits_b218 N cp k n K103 A wx4 wx5 x11 wx7 x8 x9
  else
  if g_in (x12 + x13) wx4 = true then
  if g_in (x6 + x13) wx4 = true then
  if (A (N + 1) (x12 + x13).toNatClampNeg) = (A (N + 1) (x6 + x13).toNatClampNeg) then
  g_let (x13 + 1) fun v5 =>
  K177 cp k n A wx4 wx5 x6 wx7 x8 x9 x11 x12 v5
  else
  if (0 : Int32) = 0 ∨ (0 : Int32) = 1 then some (A, (cp, k, n), 0) else none
  else none
  else none
def mX6_fits_L177 (N : Nat) (K103 : Nat → Nat → Nat → gM → Nat → Nat → Int32 → Nat → Int32 → Int32 → Option (gM × (Nat × Nat × Nat) × Int32)) : Nat → Nat → Nat → Nat → gM → Nat → Nat → Int32 → Nat → Int32 → Int32 → Int32 → Int32 → Int32 → Option (gM × (Nat × Nat × Nat) × Int32)
  | 0 => fun _ _ _ _ _ _ _ _ _ _ _ _ _ => none
  | f + 1 => fun cp k n => mX6_fits_b177 N cp k n K103 (mX6_fits_L177 N K103 f)
def mX6_fits_b167 (N cp k n : Nat) (K103 : Nat → Nat → Nat → gM → Nat → Nat → Int32 → Nat → Int32 → Int32 → Option (gM × (Nat × Nat × Nat) × Int32)) (A : gM) (wx4 : Nat) (wx5 : Nat) (x6 : Int32) (wx7 : Nat) (x8 : Int32) (x9 : Int32) (x10 : Int32) (x11 : Int32) : Option (gM × (Nat × Nat × Nat) × Int32) :=
  if g_in x10 wx5 = true then
  g_let (A (N + 2) x10.toNatClampNeg) fun v2 =>
  mX6_fits_L177 N K103 gF cp k n A wx4 wx5 x6 wx7 x8 x9 x11 v2 0
  else none
def mX6_fits_b103 (N cp k n : Nat) (K103 : Nat → Nat → Nat → gM → Nat → Nat → Int32 → Nat → Int32 → Int32 → Option (gM × (Nat × Nat × Nat) × Int32)) (A : gM) (wx4 : Nat) (wx5 : Nat) (x6 : Int32) (wx7 : Nat) (x8 : Int32) (x9 : Int32) : Option (gM × (Nat × Nat × Nat) × Int32) :=
  if x8 ≤ x9 then
  if (1 : Int32) = 0 ∨ (1 : Int32) = 1 then some (A, (cp, k, n), 1) else none
  else
  if g_in x9 wx7 = true then
  g_let (A N x9.toNatClampNeg) fun v4 =>
  (mX6_behind cp 62 A (N + 1) wx4 x6).bind fun q5 =>
  if 10 ≤ v4 then
  if g_in v4 wx5 = true then
  if (q5.1 (N + 2) v4.toNatClampNeg) = (-1) then
  if g_in v4 wx5 = true then g_let (g_up q5.1 (N + 2) v4.toNatClampNeg x6) fun A10 =>
  mX6_fits_b167 N cp k n K103 A10 wx4 wx5 x6 wx7 x8 x9 v4 q5.2
  else none
  else
  mX6_fits_b167 N cp k n K103 q5.1 wx4 wx5 x6 wx7 x8 x9 v4 q5.2
  else none
  else
  if g_in x6 wx4 = true then
  if (q5.1 (N + 1) x6.toNatClampNeg) = v4 then
  g_let (x6 + 1) fun v13 =>
  mX6_fits_b218 N cp k n K103 q5.1 wx4 wx5 v13 wx7 x8 x9
  else
  if (0 : Int32) = 0 ∨ (0 : Int32) = 1 then some (q5.1, (cp, k, n), 0) else none
  else none
  else none
def mX6_fits_L103 (N : Nat) : Nat → Nat → Nat → Nat → gM → Nat → Nat → Int32 → Nat → Int32 → Int32 → Option (gM × (Nat × Nat × Nat) × Int32)
  | 0 => fun _ _ _ _ _ _ _ _ _ _ => none
  | f + 1 => fun cp k n => mX6_fits_b103 N cp k n (mX6_fits_L103 N f)
def mX6_fits_b69 (N cp k n : Nat) (K69 : Nat → Nat → Nat → gM → Nat → Nat → Nat → Int32 → Option (gM × (Nat × Nat × Nat) × Int32)) (A : gM) (wx3 : Nat) (wx4 : Nat) (wx5 : Nat) (x6 : Int32) : Option (gM × (Nat × Nat × Nat) × Int32) :=
  if (Int32.ofNat wx5) ≤ x6 then
  g_let (Int32.ofNat wx3) fun v2 =>
  mX6_fits_L103 N gF cp k n A wx4 wx5 0 wx3 v2 0
  else
  if g_in x6 wx5 = true then g_let (g_up A (N + 2) x6.toNatClampNeg (-1)) fun A4 =>
  g_let (x6 + 1) fun v5 =>
  K69 cp k n A4 wx3 wx4 wx5 v5
  else none
def mX6_fits_L69 (N : Nat) : Nat → Nat → Nat → Nat → gM → Nat → Nat → Nat → Int32 → Option (gM × (Nat × Nat × Nat) × Int32)
  | 0 => fun _ _ _ _ _ _ _ _ => none
  | f + 1 => fun cp k n => mX6_fits_b69 N cp k n (mX6_fits_L69 N f)
def mX6_fits_b64 (N cp k n : Nat) (A : gM) (wx3 : Nat) (wx4 : Nat) (ws0 : Nat) : Option (gM × (Nat × Nat × Nat) × Int32) :=
  mX6_fits_L69 N gF cp k n A wx3 wx4 ws0 0
def mX6_fits_b45 (N cp k n : Nat) (A : gM) (wx3 : Nat) (ws0 : Nat) : Option (gM × (Nat × Nat × Nat) × Int32) :=
  if (Int32.ofNat wx3) = 0 then
  mX6_fits_b58 N cp k n A
  else
  if (Int32.ofNat ws0) = 0 then
  mX6_fits_b58 N cp k n A
  else
  if ¬ 71 < (0 : Int32) ∧ (71 : Int32).toNatClampNeg ≤ 100000 then
  mX6_fits_b64 N cp (k + 1) (n + (71 : Int32).toNatClampNeg) (g_row A (N + 2) (fun _ => 0)) wx3 ws0 ((71 : Int32).toNatClampNeg)
  else none
def mX6_fits_b39 (N cp k n : Nat) (A : gM) (x2 : Int32) (ws0 : Nat) : Option (gM × (Nat × Nat × Nat) × Int32) :=
  (mX6_row (N + 1) cp A x2).bind fun q1 =>
  mX6_fits_b45 N q1.2.1.1 (k + q1.2.1.2.1) (n + q1.2.1.2.2) q1.1 ws0 q1.2.2
def mX6_fits_b22 (N cp k n : Nat) (A : gM) (x1 : Int32) (x2 : Int32) (s1 : Int32) : Option (gM × (Nat × Nat × Nat) × Int32) :=
  g_let (g_up A 183 0 s1) fun A1 =>
  if (A1 183 0) = 0 then
  (mX6_row N cp A1 x1).bind fun q3 =>
  mX6_fits_b39 N q3.2.1.1 (k + q3.2.1.2.1) (n + q3.2.1.2.2) q3.1 x2 q3.2.2
  else
  if (0 : Int32) = 0 ∨ (0 : Int32) = 1 then some (A1, (cp, k, n), 0) else none
def mX6_fits_b21 (N cp k n : Nat) (A : gM) (x1 : Int32) (x2 : Int32) : Option (gM × (Nat × Nat × Nat) × Int32) :=
  mX6_fits_b22 N cp k n A x1 x2 1
def mX6_fits_b0 (N cp k n : Nat) (A : gM) (x1 : Int32) (x2 : Int32) : Option (gM × (Nat × Nat × Nat) × Int32) :=
  (mX6_isPart cp A x1).bind fun q1 =>
  if q1.2 = 0 then
  mX6_fits_b21 N cp k n q1.1 x1 x2
  else
  (mX6_isPart cp q1.1 x2).bind fun q3 =>
  if q3.2 = 0 then
  mX6_fits_b21 N cp k n q3.1 x1 x2
  else
  mX6_fits_b22 N cp k n q3.1 x1 x2 0
def mX6_fits (N cp : Nat) (A : gM) (x1 : Int32) (x2 : Int32) : Option (gM × (Nat × Nat × Nat) × Int32) := mX6_fits_b0 N cp 0 0 A x1 x2
def mX6_turned_b17 (N cp k n : Nat) (A : gM) (s0 : Int32) : Option (gM × (Nat × Nat × Nat) × Int32) :=
  some (A, (cp, k, n), (A 183 12))
def mX6_turned_b9 (N cp k n : Nat) (A : gM) : Option (gM × (Nat × Nat × Nat) × Int32) :=
  (mX6_typeOf N cp A (A 183 1)).bind fun q1 =>
  mX6_turned_b17 N q1.2.1.1 (k + q1.2.1.2.1) (n + q1.2.1.2.2) q1.1 q1.2.2
def mX6_turned_b0 (N cp k n : Nat) (A : gM) (x1 : Int32) (x2 : Int32) : Option (gM × (Nat × Nat × Nat) × Int32) :=
  (mX6_put N cp A 4 x1 x2 (-1) (-1)).bind fun q1 =>
  mX6_turned_b9 N q1.2.1 (k + q1.2.2.1) (n + q1.2.2.2) q1.1
def mX6_turned (N cp : Nat) (A : gM) (x1 : Int32) (x2 : Int32) : Option (gM × (Nat × Nat × Nat) × Int32) := mX6_turned_b0 N cp 0 0 A x1 x2
def mX6_goes_b35 (N cp k n : Nat) (A : gM) (s0 : Int32) : Option (gM × (Nat × Nat × Nat) × Int32) :=
  some (A, (cp, k, n), s0)
def mX6_goes_b30 (N cp k n : Nat) (A : gM) : Option (gM × (Nat × Nat × Nat) × Int32) :=
  (mX6_fail cp A 1).bind fun q1 =>
  mX6_goes_b35 N cp k n q1.1 q1.2
def mX6_goes_b27 (N cp k n : Nat) (A : gM) (s0 : Int32) : Option (gM × (Nat × Nat × Nat) × Int32) :=
  mX6_goes_b35 N cp k n A s0
def mX6_goes_b0 (N cp k n : Nat) (A : gM) (x1 : Int32) (x2 : Int32) : Option (gM × (Nat × Nat × Nat) × Int32) :=
  g_let (g_up A 183 0 0) fun A1 =>
  (mX6_isPart cp A1 x1).bind fun q2 =>
  if q2.2 = 0 then
  mX6_goes_b30 N cp k n q2.1
  else
  (mX6_isPart cp q2.1 x2).bind fun q4 =>
  if q4.2 = 0 then
  mX6_goes_b30 N cp k n q4.1
  else
  (mX6_turned N cp q4.1 x1 x2).bind fun q6 =>
  mX6_goes_b27 N q6.2.1.1 (k + q6.2.1.2.1) (n + q6.2.1.2.2) q6.1 q6.2.2
def mX6_goes (N cp : Nat) (A : gM) (x1 : Int32) (x2 : Int32) : Option (gM × (Nat × Nat × Nat) × Int32) := mX6_goes_b0 N cp 0 0 A x1 x2
def mX6_first_b35 (N cp k n : Nat) (K21 : Nat → Nat → Nat → gM → Int32 → Int32 → Option (gM × (Nat × Nat × Nat) × Int32)) (A : gM) (x1 : Int32) (x2 : Int32) (s0 : Int32) : Option (gM × (Nat × Nat × Nat) × Int32) :=
  if s0 = 0 then
  some (A, (cp, k, n), x2)
  else
  g_let (x2 + 1) fun v2 =>
  K21 cp k n A x1 v2
def mX6_first_b21 (N cp k n : Nat) (K21 : Nat → Nat → Nat → gM → Int32 → Int32 → Option (gM × (Nat × Nat × Nat) × Int32)) (A : gM) (x1 : Int32) (x2 : Int32) : Option (gM × (Nat × Nat × Nat) × Int32) :=
  if (A 183 1) ≤ x2 then
  some (A, (cp, k, n), (-1))
  else
  (mX6_turned N cp A x1 x2).bind fun q2 =>
  mX6_first_b35 N q2.2.1.1 (k + q2.2.1.2.1) (n + q2.2.1.2.2) K21 q2.1 x1 x2 q2.2.2
def mX6_first_L21 (N : Nat) : Nat → Nat → Nat → Nat → gM → Int32 → Int32 → Option (gM × (Nat × Nat × Nat) × Int32)
  | 0 => fun _ _ _ _ _ _ => none
  | f + 1 => fun cp k n => mX6_first_b21 N cp k n (mX6_first_L21 N f)
def mX6_first_b0 (N cp k n : Nat) (A : gM) (x1 : Int32) : Option (gM × (Nat × Nat × Nat) × Int32) :=
  g_let (g_up A 183 0 0) fun A1 =>
  (mX6_isPart cp A1 x1).bind fun q2 =>
  if q2.2 = 0 then
  (mX6_fail cp q2.1 1).bind fun q4 =>
  some (q4.1, (cp, k, n), q4.2)
  else
  mX6_first_L21 N gF cp k n q2.1 x1 0
def mX6_first (N cp : Nat) (A : gM) (x1 : Int32) : Option (gM × (Nat × Nat × Nat) × Int32) := mX6_first_b0 N cp 0 0 A x1
def mX6_length_b20 (N cp k n : Nat) (A : gM) (s0 : Int32) : Option (gM × (Nat × Nat × Nat) × Int32) :=
  some (A, (cp, k, n), s0)
def mX6_length_b5 (N cp k n : Nat) (A : gM) (s0 : Int32) : Option (gM × (Nat × Nat × Nat) × Int32) :=
  if s0 = (-1) then
  mX6_length_b20 N cp k n A 0
  else
  (mX6_codes cp 1250 A s0).bind fun q2 =>
  mX6_length_b20 N cp k n q2.1 q2.2
def mX6_length_b0 (N cp k n : Nat) (A : gM) (x1 : Int32) : Option (gM × (Nat × Nat × Nat) × Int32) :=
  (mX6_typeOf N cp A x1).bind fun q1 =>
  mX6_length_b5 N q1.2.1.1 (k + q1.2.1.2.1) (n + q1.2.1.2.2) q1.1 q1.2.2
def mX6_length (N cp : Nat) (A : gM) (x1 : Int32) : Option (gM × (Nat × Nat × Nat) × Int32) := mX6_length_b0 N cp 0 0 A x1
def mX6_longest_b40 (N cp k n : Nat) (K11 : Nat → Nat → Nat → gM → Int32 → Int32 → Int32 → Option (gM × (Nat × Nat × Nat) × Int32)) (A : gM) (x1 : Int32) (x2 : Int32) (x3 : Int32) : Option (gM × (Nat × Nat × Nat) × Int32) :=
  g_let (x3 + 1) fun v1 =>
  K11 cp k n A x1 x2 v1
def mX6_longest_b24 (N cp k n : Nat) (K11 : Nat → Nat → Nat → gM → Int32 → Int32 → Int32 → Option (gM × (Nat × Nat × Nat) × Int32)) (A : gM) (x1 : Int32) (x2 : Int32) (x3 : Int32) (s0 : Int32) : Option (gM × (Nat × Nat × Nat) × Int32) :=
  if x2 < s0 then
  mX6_longest_b40 N cp k n K11 A x3 s0 x3
  else
  mX6_longest_b40 N cp k n K11 A x1 x2 x3
def mX6_longest_b11 (N cp k n : Nat) (K11 : Nat → Nat → Nat → gM → Int32 → Int32 → Int32 → Option (gM × (Nat × Nat × Nat) × Int32)) (A : gM) (x1 : Int32) (x2 : Int32) (x3 : Int32) : Option (gM × (Nat × Nat × Nat) × Int32) :=
  if (A 183 1) ≤ x3 then
  some (A, (cp, k, n), x1)
  else
  (mX6_length N cp A x3).bind fun q2 =>
  mX6_longest_b24 N q2.2.1.1 (k + q2.2.1.2.1) (n + q2.2.1.2.2) K11 q2.1 x1 x2 x3 q2.2.2
def mX6_longest_L11 (N : Nat) : Nat → Nat → Nat → Nat → gM → Int32 → Int32 → Int32 → Option (gM × (Nat × Nat × Nat) × Int32)
  | 0 => fun _ _ _ _ _ _ _ => none
  | f + 1 => fun cp k n => mX6_longest_b11 N cp k n (mX6_longest_L11 N f)
def mX6_longest_b0 (N cp k n : Nat) (A : gM) : Option (gM × (Nat × Nat × Nat) × Int32) :=
  g_let (g_up A 183 0 0) fun A1 =>
  mX6_longest_L11 N gF cp k n A1 (-1) 0 0
def mX6_longest (N cp : Nat) (A : gM) : Option (gM × (Nat × Nat × Nat) × Int32) := mX6_longest_b0 N cp 0 0 A
def mX6_digest_b122 (N cp k n : Nat) (K38 : Nat → Nat → Nat → gM → Int64 → Int32 → Option (gM × (Nat × Nat × Nat) × Int64)) (K122 : Nat → Nat → Nat → gM → Int64 → Int32 → Nat → Int32 → Int32 → Option (gM × (Nat × Nat × Nat) × Int64)) (A : gM) (x1 : Int64) (x3 : Int32) (wx4 : Nat) (x5 : Int32) (x6 : Int32) : Option (gM × (Nat × Nat × Nat) × Int64) :=
  if x5 ≤ x6 then
  g_let (x3 + 1) fun v2 =>
  K38 cp k n A x1 v2
  else
  if g_in x6 wx4 = true then
  g_let (A N x6.toNatClampNeg) fun v4 =>
  g_let ((x1 * 31) + v4.toInt64) fun v5 =>
  g_let (x6 + 1) fun v6 =>
  K122 cp k n A v5 x3 wx4 x5 v6
  else none
def mX6_digest_L122 (N : Nat) (K38 : Nat → Nat → Nat → gM → Int64 → Int32 → Option (gM × (Nat × Nat × Nat) × Int64)) : Nat → Nat → Nat → Nat → gM → Int64 → Int32 → Nat → Int32 → Int32 → Option (gM × (Nat × Nat × Nat) × Int64)
  | 0 => fun _ _ _ _ _ _ _ _ _ => none
  | f + 1 => fun cp k n => mX6_digest_b122 N cp k n K38 (mX6_digest_L122 N K38 f)
def mX6_digest_b112 (N cp k n : Nat) (K38 : Nat → Nat → Nat → gM → Int64 → Int32 → Option (gM × (Nat × Nat × Nat) × Int64)) (A : gM) (x1 : Int64) (x3 : Int32) (ws0 : Nat) : Option (gM × (Nat × Nat × Nat) × Int64) :=
  g_let (Int32.ofNat ws0) fun v1 =>
  mX6_digest_L122 N K38 gF cp k n A x1 x3 ws0 v1 0
def mX6_digest_b98 (N cp k n : Nat) (K38 : Nat → Nat → Nat → gM → Int64 → Int32 → Option (gM × (Nat × Nat × Nat) × Int64)) (K80 : Nat → Nat → Nat → gM → Int64 → Int32 → Int32 → Option (gM × (Nat × Nat × Nat) × Int64)) (A : gM) (x3 : Int32) (x4 : Int32) (s0 : Int64) (s1 : Int32) : Option (gM × (Nat × Nat × Nat) × Int64) :=
  g_let (s0 + s1.toInt64) fun v1 =>
  g_let (x4 + 1) fun v2 =>
  K80 cp k n A v1 x3 v2
def mX6_digest_b80 (N cp k n : Nat) (K38 : Nat → Nat → Nat → gM → Int64 → Int32 → Option (gM × (Nat × Nat × Nat) × Int64)) (K80 : Nat → Nat → Nat → gM → Int64 → Int32 → Int32 → Option (gM × (Nat × Nat × Nat) × Int64)) (A : gM) (x1 : Int64) (x3 : Int32) (x4 : Int32) : Option (gM × (Nat × Nat × Nat) × Int64) :=
  if 5 ≤ x4 then
  (mX6_row N cp A x3).bind fun q2 =>
  mX6_digest_b112 N q2.2.1.1 (k + q2.2.1.2.1) (n + q2.2.1.2.2) K38 q2.1 x1 x3 q2.2.2
  else
  (mX6_typeTold N cp A x3 x4).bind fun q3 =>
  mX6_digest_b98 N q3.2.1.1 (k + q3.2.1.2.1) (n + q3.2.1.2.2) K38 K80 q3.1 x3 x4 (x1 * 31) q3.2.2
def mX6_digest_L80 (N : Nat) (K38 : Nat → Nat → Nat → gM → Int64 → Int32 → Option (gM × (Nat × Nat × Nat) × Int64)) : Nat → Nat → Nat → Nat → gM → Int64 → Int32 → Int32 → Option (gM × (Nat × Nat × Nat) × Int64)
  | 0 => fun _ _ _ _ _ _ _ => none
  | f + 1 => fun cp k n => mX6_digest_b80 N cp k n K38 (mX6_digest_L80 N K38 f)
def mX6_digest_b49 (N cp k n : Nat) (K38 : Nat → Nat → Nat → gM → Int64 → Int32 → Option (gM × (Nat × Nat × Nat) × Int64)) (K49 : Nat → Nat → Nat → gM → Int64 → Int32 → Int32 → Option (gM × (Nat × Nat × Nat) × Int64)) (A : gM) (x1 : Int64) (x3 : Int32) (x4 : Int32) : Option (gM × (Nat × Nat × Nat) × Int64) :=
  if 7 ≤ x4 then
  mX6_digest_L80 N K38 gF cp k n A x1 x3 0
  else
  (mX6_partTold cp A x3 x4).bind fun q2 =>
  g_let ((x1 * 31) + q2.2.toInt64) fun v3 =>
  g_let (x4 + 1) fun v4 =>
  K49 cp k n q2.1 v3 x3 v4
def mX6_digest_L49 (N : Nat) (K38 : Nat → Nat → Nat → gM → Int64 → Int32 → Option (gM × (Nat × Nat × Nat) × Int64)) : Nat → Nat → Nat → Nat → gM → Int64 → Int32 → Int32 → Option (gM × (Nat × Nat × Nat) × Int64)
  | 0 => fun _ _ _ _ _ _ _ => none
  | f + 1 => fun cp k n => mX6_digest_b49 N cp k n K38 (mX6_digest_L49 N K38 f)
def mX6_digest_b38 (N cp k n : Nat) (K38 : Nat → Nat → Nat → gM → Int64 → Int32 → Option (gM × (Nat × Nat × Nat) × Int64)) (A : gM) (x1 : Int64) (x3 : Int32) : Option (gM × (Nat × Nat × Nat) × Int64) :=
  if (A 183 1) ≤ x3 then
  some (A, (cp, k, n), x1)
  else
  mX6_digest_L49 N K38 gF cp k n A x1 x3 0
def mX6_digest_L38 (N : Nat) : Nat → Nat → Nat → Nat → gM → Int64 → Int32 → Option (gM × (Nat × Nat × Nat) × Int64)
  | 0 => fun _ _ _ _ _ _ => none
  | f + 1 => fun cp k n => mX6_digest_b38 N cp k n (mX6_digest_L38 N f)
def mX6_digest_b27 (N cp k n : Nat) (K11 : Nat → Nat → Nat → gM → Int64 → Int32 → Option (gM × (Nat × Nat × Nat) × Int64)) (A : gM) (x3 : Int32) (s0 : Int64) (s1 : Int32) : Option (gM × (Nat × Nat × Nat) × Int64) :=
  g_let (s0 + s1.toInt64) fun v1 =>
  g_let (x3 + 1) fun v2 =>
  K11 cp k n A v1 v2
def mX6_digest_b11 (N cp k n : Nat) (K11 : Nat → Nat → Nat → gM → Int64 → Int32 → Option (gM × (Nat × Nat × Nat) × Int64)) (A : gM) (x1 : Int64) (x3 : Int32) : Option (gM × (Nat × Nat × Nat) × Int64) :=
  if 6 ≤ x3 then
  mX6_digest_L38 N gF cp k n A x1 0
  else
  (mX6_counted N cp A x3).bind fun q2 =>
  mX6_digest_b27 N q2.2.1.1 (k + q2.2.1.2.1) (n + q2.2.1.2.2) K11 q2.1 x3 (x1 * 31) q2.2.2
def mX6_digest_L11 (N : Nat) : Nat → Nat → Nat → Nat → gM → Int64 → Int32 → Option (gM × (Nat × Nat × Nat) × Int64)
  | 0 => fun _ _ _ _ _ _ => none
  | f + 1 => fun cp k n => mX6_digest_b11 N cp k n (mX6_digest_L11 N f)
def mX6_digest_b0 (N cp k n : Nat) (A : gM) : Option (gM × (Nat × Nat × Nat) × Int64) :=
  g_let (g_up A 183 0 0) fun A1 =>
  mX6_digest_L11 N gF cp k n A1 1597 0
def mX6_digest (N cp : Nat) (A : gM) : Option (gM × (Nat × Nat × Nat) × Int64) := mX6_digest_b0 N cp 0 0 A
