/-! what strings and copies answer -/
def sidx (Z : Nat → Nat) (r : Option Nat) : Option Nat := (List.range 6).find? (fun i => r == some (Z (10 + i)))
def slen (Z : Nat → Nat) (r : Option Nat) : Option Int32 := (sidx Z r).bind fun i => some (Int32.ofNat (sTxt i).length)
def schr (Z : Nat → Nat) (r : Option Nat) (k : Int32) : Option Int32 := (sidx Z r).bind fun i => if inb k (sTxt i).length then some (Int32.ofNat ((sTxt i).getD k.toNatClampNeg 0)) else none
def ldS (L : Nat) (xs : Nat → Int32) (i : Int32) : Option Int32 := if inb i L then some (xs i.toNatClampNeg) else none
def cpJ (K : Sh) (J : Jm) (s : Option Nat) (sp : Int32) (t : Option Nat) (dp n : Int32) : Option Jm := s.bind fun a => t.bind fun b =>
  if ((K a).1 = 22 ∧ (K b).1 = 22) ∧ ((¬ sp < 0 ∧ ¬ dp < 0 ∧ ¬ n < 0) ∧ sp.toNatClampNeg + n.toNatClampNeg ≤ (K a).2 ∧ dp.toNatClampNeg + n.toNatClampNeg ≤ (K b).2) then some (fun c j => if c = b then va_cpy (J a) (J b) sp.toNatClampNeg dp.toNatClampNeg n.toNatClampNeg j else J c j) else none
def f_X0_init (o : Nat)  (K : Sh) (n : Nat) (I : Im) (R : Rf) : Option (Sh × Nat × Im × Rf) :=
  Option.bind (some (u1 K n (21, 20))) fun K1 =>
  Option.bind (some (zr I n 0)) fun I2 =>
  Option.bind (ob K1 1 (some o)) fun a3 =>
  Option.bind (some (u2 R a3 0 (some n))) fun R5 =>
  some (K1, (n + 1), I2, R5)
def f_X0_bodyOf_40 (Z : Nat → Nat) (K : Sh) (I : Im)  (x1 : Int32) (x2 : Int32) : Option (Int32) :=
  Option.bind (ldI K I (some (Z 2)) ((x2 * 3) + x1)) fun v1 =>
  some v1
def f_X0_bodyOf_4 (Z : Nat → Nat) (K : Sh) (I : Im)  : Nat → Int32 → Int32 → Int32 → Option (Int32)
  | 0, _, _, _ => none
  | k + 1, x1, x2, x3 =>
    Option.bind (alen K (some (Z 0))) fun v2 =>
    if v2 ≤ x3 then
      f_X0_bodyOf_40 Z K I x1 x2
    else
      if x2 ≤ 0 then
        f_X0_bodyOf_40 Z K I x1 x2
      else
        Option.bind (ldI K I (some (Z 2)) ((x2 * 3) + x1)) fun v3 =>
        if v3 = 0 then
          Option.bind (ldI K I (some (Z 0)) x2) fun v4 =>
          f_X0_bodyOf_4 Z K I k x1 v4 (x3 + 1)
        else
          f_X0_bodyOf_40 Z K I x1 x2
def f_X0_bodyOf (Z : Nat → Nat) (K : Sh) (I : Im)  (x0 : Int32) (x1 : Int32) : Option (Int32) :=
  f_X0_bodyOf_4 Z K I FU x1 x0 0
def f_X0_note_19 (K : Sh) (R : Rf) (o : Nat)  (I : Im) : Option (Im) :=
  Option.bind (some (u2 I o 1 ((I o 1) + 1))) fun I1 =>
  some I1
def f_X0_note (K : Sh) (R : Rf) (o : Nat)  (x1 : Int32) (I : Im) : Option (Im) :=
  if 20 ≤ (I o 1) then
    f_X0_note_19 K R o I
  else
    Option.bind (stI K I (R o 0) (I o 1) x1) fun I2 =>
    f_X0_note_19 K R o I2
def f_X0_perform_0 (Z : Nat → Nat) (K : Sh) (R : Rf) (g_X0_perform : Option Nat → Option Nat → Int32 → Int32 → Int32 → Int32 → Im → Option (Int32 × Im))  (x0 : Option Nat) (x1 : Option Nat) (x2 : Int32) (x3 : Int32) (x4 : Int32) (x5 : Int32) (I : Im) : Option (Int32 × Im) :=
  if x5 ≤ 20 then
    Option.bind (f_X0_bodyOf Z K I x2 x3) fun q1 =>
    Option.bind (ob K 1 x0) fun a3 =>
    Option.bind (f_X0_note K R a3 q1 I) fun q5 =>
    if q1 = 10 then
      Option.bind (ob K 6 x1) fun a7 =>
      some ((x4 + (q5 a7 1)), q5)
    else
    if q1 = 11 then
      Option.bind (ob K 6 x1) fun a10 =>
      Option.bind (g_X0_perform x0 x1 (q5 a10 0) 0 x4 (x5 + 1) q5) fun q12 =>
      some ((q12.1 - (q12.2 a10 2)), q12.2)
    else
    if q1 = 12 then
      Option.bind (ob K 6 x1) fun a15 =>
      Option.bind (g_X0_perform x0 x1 (q5 a15 0) 1 x4 (x5 + 1) q5) fun q17 =>
      some ((q17.1 * 2), q17.2)
    else
    if q1 = 20 then
      Option.bind (g_X0_perform x0 x1 0 1 x4 (x5 + 1) q5) fun q20 =>
      some ((q20.1 ^^^ 6), q20.2)
    else
    if q1 = 30 then
      Option.bind (g_X0_perform x0 x1 0 0 (x4 * 3) (x5 + 1) q5) fun q23 =>
      some (q23.1, q23.2)
    else
    if q1 = 40 then
      Option.bind (g_X0_perform x0 x1 0 2 x4 (x5 + 1) q5) fun q26 =>
      Option.bind (ob K 6 x1) fun a28 =>
      Option.bind (g_X0_perform x0 x1 (q26.2 a28 0) 1 1 (x5 + 1) q26.2) fun q30 =>
      some ((q26.1 + q30.1), q30.2)
    else
    if q1 = 50 then
      Option.bind (g_X0_perform x0 x1 1 0 x4 (x5 + 1) q5) fun q33 =>
      some ((-q33.1), q33.2)
    else
    if q1 = 51 then
      Option.bind (g_X0_perform x0 x1 1 1 (x4 + 1) (x5 + 1) q5) fun q36 =>
      some (q36.1, q36.2)
    else
    if q1 = 60 then
      Option.bind (ob K 6 x1) fun a39 =>
      Option.bind (g_X0_perform x0 x1 1 2 (x4 - (q5 a39 1)) (x5 + 1) q5) fun q41 =>
      some (q41.1, q41.2)
    else
    if q1 = 70 then
      Option.bind (g_X0_perform x0 x1 2 1 x4 (x5 + 1) q5) fun q44 =>
      Option.bind (g_X0_perform x0 x1 2 0 2 (x5 + 1) q44.2) fun q46 =>
      some ((q44.1 + q46.1), q46.2)
    else
    if q1 = 71 then
      Option.bind (g_X0_perform x0 x1 2 0 x4 (x5 + 1) q5) fun q49 =>
      Option.bind (ob K 6 x1) fun a51 =>
      some ((q49.1 ^^^ (q49.2 a51 2)), q49.2)
    else
    some (0, q5)
  else
    some (0, I)
def F_X0_PF (Z : Nat → Nat) (K : Sh) (R : Rf) : Nat → (Option Nat → Option Nat → Int32 → Int32 → Int32 → Int32 → Im → Option (Int32 × Im))
  | 0 => fun _ _ _ _ _ _ _ => none
  | d + 1 => fun x0 x1 x2 x3 x4 x5 I => f_X0_perform_0 Z K R  (F_X0_PF Z K R d) x0 x1 x2 x3 x4 x5 I
def f_X0_perform (Z : Nat → Nat) (K : Sh) (R : Rf) (x0 : Option Nat) (x1 : Option Nat) (x2 : Int32) (x3 : Int32) (x4 : Int32) (x5 : Int32) (I : Im) : Option (Int32 × Im) := (F_X0_PF Z K R 24) x0 x1 x2 x3 x4 x5 I
def f_X1_init (K : Sh) (o : Nat)  (R : Rf) : Option (Rf) :=
  Option.bind (some (u2 R o 2 none)) fun R1 =>
  some R1
def f_X1_become (K : Sh) (o : Nat)  (x1 : Int32) (x2 : Int32) (x3 : Option Nat) (I : Im) (R : Rf) : Option (Im × Rf) :=
  Option.bind (some (u2 I o 0 x1)) fun I1 =>
  Option.bind (some (u2 I1 o 1 x2)) fun I2 =>
  Option.bind (some (u2 R o 2 x3)) fun R3 =>
  some (I2, R3)
def f_X2_init (o : Nat)  (K : Sh) (n : Nat) (I : Im) (R : Rf) : Option (Sh × Nat × Im × Rf) :=
  Option.bind (some (u1 K n (21, 3))) fun K1 =>
  Option.bind (some (zr I n 0)) fun I2 =>
  Option.bind (ob K1 3 (some o)) fun a3 =>
  Option.bind (some (u2 R a3 0 (some n))) fun R5 =>
  some (K1, (n + 1), I2, R5)
def f_X2_begin_13 (K : Sh) (R : Rf) (o : Nat)  : Nat → Int32 → Im → Option (Im)
  | 0, _, _ => none
  | k + 1, x1, I =>
    if 3 ≤ x1 then
      some I
    else
      Option.bind (stI K I (R o 0) x1 (-5)) fun I1 =>
      f_X2_begin_13 K R o k (x1 + 1) I1
def f_X2_begin (K : Sh) (R : Rf) (o : Nat)  (I : Im) : Option (Im) :=
  Option.bind (some (u2 I o 1 0)) fun I3 =>
  Option.bind (some (u2 I3 o 2 (-5))) fun I4 =>
  f_X2_begin_13 K R o FU 0 I4
def f_X2_note (K : Sh) (R : Rf) (o : Nat)  (x1 : Int32) (x2 : Int32) (x3 : Int32) (I : Im) : Option (Im) :=
  Option.bind (stI K I (R o 0) x1 x2) fun I1 =>
  Option.bind (some (u2 I1 o 1 ((I1 o 1) + x3))) fun I2 =>
  Option.bind (some (u2 I2 o 2 (imax (I2 o 2) x2))) fun I3 =>
  some I3
def f_X2_tell (K : Sh) (I : Im) (R : Rf) (o : Nat)  (x1 : Int32) : Option (Int32) :=
  if 2 ≤ x1 then
    if x1 < 10 then
      some (-1)
    else
      if 13 ≤ x1 then
        some (-1)
      else
        Option.bind (ldI K I (R o 0) (x1 - 10)) fun v1 =>
        some v1
  else
    if x1 = 0 then
      some (I o 1)
    else
      some (I o 2)
def f_X2_forgetOrder (K : Sh) (o : Nat)  (I : Im) : Option (Im) :=
  Option.bind (some (u2 I o 3 (-1))) fun I1 =>
  some I1
def f_X2_compare_69 (K : Sh) (o : Nat)  (x1 : Int32) (I : Im) : Option (Im) :=
  Option.bind (some (u2 I o 3 x1)) fun I1 =>
  Option.bind (some (u2 I1 o 4 (I1 o 1))) fun I2 =>
  Option.bind (some (u2 I2 o 5 (I2 o 2))) fun I3 =>
  some I3
def f_X2_compare_34 (K : Sh) (o : Nat)  (x1 : Int32) (s0 : Int32) (I : Im) : Option (Im) :=
  if (I o 3) = (-1) then
    f_X2_compare_69 K o x1 I
  else
    if (I o 4) < (I o 1) then
      f_X2_compare_69 K o x1 I
    else
      if (I o 1) = (I o 4) then
        if s0 = 0 then
          some I
        else
          f_X2_compare_69 K o x1 I
      else
        some I
def f_X2_compare_33 (K : Sh) (o : Nat)  (x1 : Int32) (I : Im) : Option (Im) :=
  f_X2_compare_34 K o x1 0 I
def f_X2_compare_29 (K : Sh) (o : Nat)  (x1 : Int32) (I : Im) : Option (Im) :=
  f_X2_compare_34 K o x1 1 I
def f_X2_compare (K : Sh) (o : Nat)  (x1 : Int32) (I : Im) : Option (Im) :=
  if (I o 2) = (-5) then
    f_X2_compare_33 K o x1 I
  else
    if (I o 5) = (-5) then
      f_X2_compare_29 K o x1 I
    else
      if (I o 5) ≤ (I o 2) then
        f_X2_compare_33 K o x1 I
      else
        f_X2_compare_29 K o x1 I
def f_X2_placeAt (Z : Nat → Nat) (K : Sh) (I : Im) (o : Nat)  (x1 : Int32) (x2 : Int32) : Option (Int32) :=
  if x1 < 0 then
    some (-5)
  else
    if x2 ≤ x1 then
      some (-5)
    else
      if (((I o 3) * 3) + x1) < 0 then
        some (-5)
      else
        Option.bind (alen K (some (Z 1))) fun v1 =>
        if v1 ≤ (((I o 3) * 3) + x1) then
          some (-5)
        else
          Option.bind (ldI K I (some (Z 1)) (((I o 3) * 3) + x1)) fun v2 =>
          some v2
def f_X3_init (o : Nat)  (K : Sh) (n : Nat) (I : Im) (R : Rf) : Option (Sh × Nat × Im × Rf) :=
  Option.bind (some (u1 K n (21, 5))) fun K1 =>
  Option.bind (some (zr I n 0)) fun I2 =>
  Option.bind (ob K1 4 (some o)) fun a3 =>
  Option.bind (some (u2 R a3 0 (some n))) fun R5 =>
  Option.bind (some (u1 K1 (n + 1) (21, 6))) fun K6 =>
  Option.bind (some (zr I2 (n + 1) 0)) fun I7 =>
  Option.bind (ob K6 4 (some o)) fun a8 =>
  Option.bind (some (u2 R5 a8 1 (some (n + 1)))) fun R10 =>
  Option.bind (some (u1 K6 (n + 2) (21, 186))) fun K11 =>
  Option.bind (some (zr I7 (n + 2) 0)) fun I12 =>
  Option.bind (ob K11 4 (some o)) fun a13 =>
  Option.bind (some (u2 R10 a13 2 (some (n + 2)))) fun R15 =>
  Option.bind (some (u1 K11 (n + 3) (21, 186))) fun K16 =>
  Option.bind (some (zr I12 (n + 3) 0)) fun I17 =>
  Option.bind (ob K16 4 (some o)) fun a18 =>
  Option.bind (some (u2 R15 a18 3 (some (n + 3)))) fun R20 =>
  Option.bind (some (u2 R20 a18 4 none)) fun R21 =>
  Option.bind (some (u2 R21 a18 5 none)) fun R22 =>
  some (K16, (n + 4), I17, R22)
def f_X9_sumsOf   (x0 : Int32) (x1 : Int32) : Option (Int32) :=
  some ((((x0 * 9) + x1) - 1) * 33)
def f_X9_drunkAlong (K : Sh) (I : Im) (R : Rf) (o : Nat)  (x1 : Int32) (x2 : Int32) (x3 : Int32) : Option (Int32) :=
  Option.bind (f_X9_sumsOf x1 x3) fun q1 =>
  Option.bind (ldI K I (R o 7) x1) fun v3 =>
  if (R o 8) = none then
    some 0
  else
    if (q1 + (irem x2 24)) < 0 then
      some 0
    else
      Option.bind (alen K (R o 8)) fun v4 =>
      if v4 ≤ ((q1 + (irem x2 24)) + v3) then
        some 0
      else
        Option.bind (ldI K I (R o 8) ((q1 + (irem x2 24)) + v3)) fun v5 =>
        Option.bind (ldI K I (R o 8) (q1 + (irem x2 24))) fun v6 =>
        some ((v5 - v6) * x3)
def f_X3_begin_43 (K : Sh) (R : Rf) (o : Nat)  : Nat → Int32 → Int32 → Im → Option (Im)
  | 0, _, _, _ => none
  | k + 1, x1, x2, I =>
    Option.bind (ob K 10 (R o 4)) fun a1 =>
    if (I a1 0) ≤ x2 then
      Option.bind (f_X9_drunkAlong K I R a1 0 x1 (I o 6)) fun q3 =>
      Option.bind (stI K I (R o 2) 0 (imax (-1) ((I o 7) - q3))) fun I5 =>
      some I5
    else
      Option.bind (ldI K I (R o 1) x2) fun v6 =>
      Option.bind (ob K 11 (R o 5)) fun a7 =>
      Option.bind (ldI K I (R a7 3) x2) fun v9 =>
      Option.bind (ldI K I (R a1 7) (x2 + 1)) fun v10 =>
      Option.bind (stI K I (R o 1) (x2 + 1) ((imax v6 v9) + v10)) fun I11 =>
      f_X3_begin_43 K R o k x1 (x2 + 1) I11
def f_X3_begin_2 (K : Sh) (R : Rf) (o : Nat)  : Nat → Int32 → Int32 → Im → Option (Im)
  | 0, _, _, _ => none
  | k + 1, x1, x2, I =>
    Option.bind (alen K (R o 2)) fun v13 =>
    if v13 ≤ x2 then
      Option.bind (ob K 10 (R o 4)) fun a14 =>
      Option.bind (ldI K I (R a14 7) 0) fun v16 =>
      Option.bind (stI K I (R o 1) 0 (x1 + v16)) fun I17 =>
      f_X3_begin_43 K R o FU x1 0 I17
    else
      Option.bind (stI K I (R o 2) x2 (-1)) fun I18 =>
      f_X3_begin_2 K R o k x1 (x2 + 1) I18
def f_X3_begin (K : Sh) (R : Rf) (o : Nat)  (x1 : Int32) (I : Im) : Option (Im) :=
  f_X3_begin_2 K R o FU x1 0 I
def f_X3_leaving (K : Sh) (I : Im) (R : Rf) (o : Nat)  (x1 : Int32) (x2 : Int32) (x3 : Int32) : Option (Int32) :=
  Option.bind (ldI K I (R o 1) x1) fun v1 =>
  Option.bind (ob K 11 (R o 5)) fun a2 =>
  Option.bind (ldI K I (R a2 3) x1) fun v4 =>
  some ((imax (v1 + x2) v4) + x3)
def f_X3_nextOf (K : Sh) (I : Im) (R : Rf) (o : Nat)  (x1 : Int32) (x2 : Int32) : Option (Int32) :=
  Option.bind (ob K 10 (R o 4)) fun a1 =>
  Option.bind (ldI K I (R a1 7) (x1 + 1)) fun v3 =>
  Option.bind (ldI K I (R o 1) (x1 + 1)) fun v4 =>
  some ((x2 + v3) - v4)
def f_X10_heldAt (K : Sh) (I : Im) (R : Rf) (o : Nat)  (x1 : Int32) (x2 : Int32) : Option (Int32) :=
  Option.bind (ldI K I (R o 3) x1) fun v1 =>
  if v1 < x2 then
    Option.bind (ldI K I (R o 2) x1) fun v2 =>
    Option.bind (ldI K I (R o 1) x1) fun v3 =>
    Option.bind (ldI K I (R o 3) x1) fun v4 =>
    Option.bind (ldI K I (R o 0) x1) fun v5 =>
    if v5 ≤ (v2 + (v3 * (x2 - v4))) then
      Option.bind (ldI K I (R o 0) x1) fun v6 =>
      some v6
    else
      some (v2 + (v3 * (x2 - v4)))
  else
    Option.bind (ldI K I (R o 2) x1) fun v8 =>
    some v8
def f_X3_brought (K : Sh) (I : Im) (R : Rf) (o : Nat)  (x1 : Int32) (x2 : Int32) (x3 : Int32) (x4 : Int32) : Option (Int32) :=
  Option.bind (ldI K I (R o 1) x1) fun v1 =>
  Option.bind (some (x4 - (((x3 - v1) - x2) * (I o 8)))) fun v2 =>
  if 0 ≤ v2 then
    Option.bind (ob K 11 (R o 5)) fun a3 =>
    Option.bind (f_X10_heldAt K I R a3 x1 x3) fun q5 =>
    Option.bind (ob K 10 (R o 4)) fun a7 =>
    Option.bind (f_X9_drunkAlong K I R a7 (x1 + 1) x3 (I o 6)) fun q9 =>
    some ((imin (I o 7) (v2 + q5)) - q9)
  else
    some (-1)
def f_X3_spread_15 (K : Sh) (R : Rf) (o : Nat)  : Nat → Int32 → Int32 → Int32 → Int32 → Im → Option (Im)
  | 0, _, _, _, _, _ => none
  | k + 1, x1, x2, x3, x4, I =>
    if 6 < x4 then
      some I
    else
      if x3 < 0 then
        some I
      else
        Option.bind (f_X3_leaving K I R o x1 x2 x4) fun q1 =>
        Option.bind (f_X3_nextOf K I R o x1 q1) fun q3 =>
        if (((x1 + 1) * 31) + q3) < 0 then
          f_X3_spread_15 K R o k x1 x2 x3 (x4 + 1) I
        else
          Option.bind (alen K (R o 2)) fun v5 =>
          if v5 ≤ (((x1 + 1) * 31) + q3) then
            f_X3_spread_15 K R o k x1 x2 x3 (x4 + 1) I
          else
            Option.bind (ldI K I (R o 2) (((x1 + 1) * 31) + q3)) fun v6 =>
            Option.bind (f_X3_brought K I R o x1 x2 q1 x3) fun q7 =>
            Option.bind (stI K I (R o 2) (((x1 + 1) * 31) + q3) (imax v6 q7)) fun I9 =>
            f_X3_spread_15 K R o k x1 x2 x3 (x4 + 1) I9
def f_X3_spread (K : Sh) (R : Rf) (o : Nat)  (x1 : Int32) (x2 : Int32) (I : Im) : Option (Im) :=
  Option.bind (ldI K I (R o 2) ((x1 * 31) + x2)) fun v14 =>
  f_X3_spread_15 K R o FU x1 x2 v14 0 I
def f_X3_earliest_116 (K : Sh) (o : Nat)  : Nat → Int32 → Im → Rf → Option (Int32 × Im × Rf)
  | 0, _, _, _ => none
  | k + 1, x4, I, R =>
    if x4 < 0 then
      some ((I o 9), I, R)
    else
      Option.bind (ob K 10 (R o 4)) fun a1 =>
      Option.bind (ldI K I (R o 2) (((I a1 0) * 31) + x4)) fun v3 =>
      if v3 < 0 then
        f_X3_earliest_116 K o k (x4 - 1) I R
      else
        Option.bind (ldI K I (R o 1) (I a1 0)) fun v4 =>
        Option.bind (some (u2 I o 9 (v4 + x4))) fun I5 =>
        f_X3_earliest_116 K o k (x4 - 1) I5 R
def f_X3_earliest_76 (K : Sh) (o : Nat) (r61 : Int32 → Im → Rf → Option (Int32 × Im × Rf)) : Nat → Int32 → Int32 → Im → Rf → Option (Int32 × Im × Rf)
  | 0, _, _, _, _ => none
  | k + 1, x4, x5, I, R =>
    if (x4 * 6) < x5 then
      r61 (x4 + 1) I R
    else
      Option.bind (f_X3_spread K R o x4 x5 I) fun q8 =>
      f_X3_earliest_76 K o r61 k x4 (x5 + 1) q8 R
def f_X3_earliest_61 (K : Sh) (o : Nat)  : Nat → Int32 → Im → Rf → Option (Int32 × Im × Rf)
  | 0, _, _, _ => none
  | k + 1, x4, I, R =>
    Option.bind (ob K 10 (R o 4)) fun a11 =>
    if (I a11 0) ≤ x4 then
      Option.bind (some (u2 I o 9 (-5))) fun I13 =>
      f_X3_earliest_116 K o FU 30 I13 R
    else
      f_X3_earliest_76 K o (f_X3_earliest_61 K o k) FU x4 0 I R
def f_X3_earliest (K : Sh) (o : Nat)  (x1 : Option Nat) (x2 : Option Nat) (x3 : Option Nat) (I : Im) (R : Rf) : Option (Int32 × Im × Rf) :=
  Option.bind (some (u2 R o 4 x1)) fun R15 =>
  Option.bind (some (u2 R15 o 5 x2)) fun R16 =>
  Option.bind (ob K 2 x3) fun a17 =>
  Option.bind (some (u2 I o 6 (I a17 0))) fun I19 =>
  Option.bind (ob K 10 (R16 o 4)) fun a20 =>
  Option.bind (some (u2 I19 o 7 ((I19 a20 2) * (I19 o 6)))) fun I22 =>
  Option.bind (some (u2 I22 o 8 ((I22 a20 4) * (I22 o 6)))) fun I23 =>
  Option.bind (f_X3_begin K R16 o (I23 a17 1) I23) fun q24 =>
  f_X3_earliest_61 K o FU 0 q24 R16
def f_X3_leastNext (K : Sh) (I : Im) (R : Rf) (o : Nat)  (x1 : Int32) (x2 : Int32) : Option (Int32) :=
  Option.bind (f_X3_nextOf K I R o x1 x2) fun q1 =>
  if (((x1 + 1) * 31) + q1) < 0 then
    some 1000000
  else
    Option.bind (alen K (R o 3)) fun v3 =>
    if v3 ≤ (((x1 + 1) * 31) + q1) then
      some 1000000
    else
      Option.bind (ldI K I (R o 3) (((x1 + 1) * 31) + q1)) fun v4 =>
      some v4
def f_X3_leastAt_6 (K : Sh) (I : Im) (R : Rf) (o : Nat)  : Nat → Int32 → Int32 → Int32 → Int32 → Option (Int32)
  | 0, _, _, _, _ => none
  | k + 1, x1, x2, x3, x4 =>
    if 6 < x4 then
      some x3
    else
      Option.bind (f_X3_leaving K I R o x1 x2 x4) fun q1 =>
      Option.bind (f_X3_leastNext K I R o x1 q1) fun q3 =>
      Option.bind (ob K 10 (R o 4)) fun a5 =>
      Option.bind (f_X9_drunkAlong K I R a5 (x1 + 1) q1 (I o 6)) fun q7 =>
      if (I o 7) < (q3 + q7) then
        f_X3_leastAt_6 K I R o k x1 x2 x3 (x4 + 1)
      else
        Option.bind (ldI K I (R o 1) x1) fun v9 =>
        Option.bind (ob K 11 (R o 5)) fun a10 =>
        Option.bind (f_X10_heldAt K I R a10 x1 q1) fun q12 =>
        Option.bind (some (imin x3 ((((q1 - v9) - x2) * (I o 8)) + (imax 0 ((q3 + q7) - q12))))) fun v14 =>
        f_X3_leastAt_6 K I R o k x1 x2 v14 (x4 + 1)
def f_X3_leastAt (K : Sh) (I : Im) (R : Rf) (o : Nat)  (x1 : Int32) (x2 : Int32) : Option (Int32) :=
  f_X3_leastAt_6 K I R o FU x1 x2 1000000 0
def f_X3_leadsOn (K : Sh) (I : Im) (R : Rf) (o : Nat)  (x1 : Int32) (x2 : Int32) (x3 : Int32) (x4 : Int32) : Option (Int32) :=
  Option.bind (f_X3_leaving K I R o x1 x2 x3) fun q1 =>
  Option.bind (f_X3_brought K I R o x1 x2 q1 x4) fun q3 =>
  Option.bind (f_X3_leastNext K I R o x1 q1) fun q5 =>
  if q3 < q5 then
    some 0
  else
    some 1
def f_X3_plan_118 (K : Sh) (R : Rf) (o : Nat) (r112 : Int32 → Im → Option (Im)) : Nat → Int32 → Int32 → Im → Option (Im)
  | 0, _, _, _ => none
  | k + 1, x1, x2, I =>
    if (x1 * 6) < x2 then
      r112 (x1 - 1) I
    else
      Option.bind (f_X3_leastAt K I R o x1 x2) fun q1 =>
      Option.bind (stI K I (R o 3) ((x1 * 31) + x2) q1) fun I3 =>
      f_X3_plan_118 K R o r112 k x1 (x2 + 1) I3
def f_X3_plan_217 (K : Sh) (R : Rf) (o : Nat) (r166 : Int32 → Int32 → Int32 → Im → Option (Im)) (x1 : Int32) (x2 : Int32) (x3 : Int32) (I : Im) : Option (Im) :=
  Option.bind (ldI K I (R o 0) x3) fun v5 =>
  Option.bind (f_X3_leaving K I R o x3 x1 v5) fun q6 =>
  Option.bind (f_X3_brought K I R o x3 x1 q6 x2) fun q8 =>
  Option.bind (f_X3_nextOf K I R o x3 q6) fun q10 =>
  r166 q10 q8 (x3 + 1) I
def f_X3_plan_177 (K : Sh) (R : Rf) (o : Nat) (r166 : Int32 → Int32 → Int32 → Im → Option (Im)) : Nat → Int32 → Int32 → Int32 → Im → Option (Im)
  | 0, _, _, _, _ => none
  | k + 1, x1, x2, x3, I =>
    Option.bind (ldI K I (R o 0) x3) fun v12 =>
    if 6 ≤ v12 then
      f_X3_plan_217 K R o r166 x1 x2 x3 I
    else
      Option.bind (ldI K I (R o 0) x3) fun v13 =>
      Option.bind (f_X3_leadsOn K I R o x3 x1 v13 x2) fun q14 =>
      if q14 = 0 then
        Option.bind (ldI K I (R o 0) x3) fun v16 =>
        Option.bind (stI K I (R o 0) x3 (v16 + 1)) fun I17 =>
        f_X3_plan_177 K R o r166 k x1 x2 x3 I17
      else
        f_X3_plan_217 K R o r166 x1 x2 x3 I
def f_X3_plan_166 (K : Sh) (R : Rf) (o : Nat)  : Nat → Int32 → Int32 → Int32 → Im → Option (Im)
  | 0, _, _, _, _ => none
  | k + 1, x1, x2, x3, I =>
    Option.bind (ob K 10 (R o 4)) fun a20 =>
    if (I a20 0) ≤ x3 then
      some I
    else
      f_X3_plan_177 K R o (f_X3_plan_166 K R o k) FU x1 x2 x3 I
def f_X3_plan_112 (K : Sh) (R : Rf) (o : Nat)  : Nat → Int32 → Im → Option (Im)
  | 0, _, _ => none
  | k + 1, x1, I =>
    if x1 ≤ 0 then
      Option.bind (ldI K I (R o 2) 0) fun v23 =>
      f_X3_plan_166 K R o FU 0 v23 0 I
    else
      f_X3_plan_118 K R o (f_X3_plan_112 K R o k) FU x1 0 I
def f_X3_plan_95 (K : Sh) (R : Rf) (o : Nat) (r46 : Int32 → Im → Option (Im)) (x1 : Int32) (s0 : Option Nat) (s1 : Int32) (s2 : Int32) (I : Im) : Option (Im) :=
  Option.bind (stI K I s0 s1 s2) fun I25 =>
  r46 (x1 + 1) I25
def f_X3_plan_46 (K : Sh) (R : Rf) (o : Nat)  : Nat → Int32 → Im → Option (Im)
  | 0, _, _ => none
  | k + 1, x1, I =>
    if 31 ≤ x1 then
      Option.bind (ob K 10 (R o 4)) fun a26 =>
      f_X3_plan_112 K R o FU ((I a26 0) - 1) I
    else
      Option.bind (ob K 10 (R o 4)) fun a28 =>
      Option.bind (ldI K I (R o 1) (I a28 0)) fun v30 =>
      if (v30 + x1) = (I o 9) then
        f_X3_plan_95 K R o (f_X3_plan_46 K R o k) x1 (R o 3) (((I a28 0) * 31) + x1) 0 I
      else
        f_X3_plan_95 K R o (f_X3_plan_46 K R o k) x1 (R o 3) (((I a28 0) * 31) + x1) 1000000 I
def f_X3_plan_2 (K : Sh) (R : Rf) (o : Nat)  : Nat → Int32 → Im → Option (Im)
  | 0, _, _ => none
  | k + 1, x1, I =>
    if 5 ≤ x1 then
      if (R o 4) = none then
        some I
      else
        if (R o 5) = none then
          some I
        else
          if (I o 9) = (-5) then
            some I
          else
            f_X3_plan_46 K R o FU 0 I
    else
      Option.bind (stI K I (R o 0) x1 0) fun I36 =>
      f_X3_plan_2 K R o k (x1 + 1) I36
def f_X3_plan (K : Sh) (R : Rf) (o : Nat)  (I : Im) : Option (Im) :=
  f_X3_plan_2 K R o FU 0 I
def f_X4_init (o : Nat)  (K : Sh) (n : Nat) (I : Im) (R : Rf) : Option (Sh × Nat × Im × Rf) :=
  Option.bind (some (u1 K n (20, 100))) fun K1 =>
  Option.bind (some (zr I n 0)) fun I2 =>
  Option.bind (ob K1 5 (some o)) fun a3 =>
  Option.bind (some (u2 R a3 0 (some n))) fun R5 =>
  Option.bind (some (u1 K1 (n + 1) (21, 12))) fun K6 =>
  Option.bind (some (zr I2 (n + 1) 0)) fun I7 =>
  Option.bind (ob K6 5 (some o)) fun a8 =>
  Option.bind (some (u2 R5 a8 5 (some (n + 1)))) fun R10 =>
  Option.bind (some (u1 K6 (n + 2) (21, 12))) fun K11 =>
  Option.bind (some (zr I7 (n + 2) 0)) fun I12 =>
  Option.bind (ob K11 5 (some o)) fun a13 =>
  Option.bind (some (u2 R10 a13 6 (some (n + 2)))) fun R15 =>
  Option.bind (some (u1 K11 (n + 3) (21, 12))) fun K16 =>
  Option.bind (some (zr I12 (n + 3) 0)) fun I17 =>
  Option.bind (ob K16 5 (some o)) fun a18 =>
  Option.bind (some (u2 R15 a18 7 (some (n + 3)))) fun R20 =>
  Option.bind (some (u2 I17 a18 8 1)) fun I21 =>
  some (K16, (n + 4), I21, R20)
def f_X4_put (K : Sh) (R : Rf) (o : Nat)  (x1 : Int32) (I : Im) : Option (Im) :=
  if 100 ≤ (I o 1) then
    some I
  else
    Option.bind (stB K I (R o 0) (I o 1) x1) fun I1 =>
    Option.bind (some (u2 I1 o 1 ((I1 o 1) + 1))) fun I2 =>
    some I2
def f_X9_clear_55 (K : Sh) (R : Rf) (o : Nat)  : Nat → Int32 → Im → Option (Im)
  | 0, _, _ => none
  | k + 1, x1, I =>
    if 6 ≤ x1 then
      some I
    else
      Option.bind (stI K I (R o 7) x1 3) fun I1 =>
      f_X9_clear_55 K R o k (x1 + 1) I1
def f_X9_clear_28 (K : Sh) (R : Rf) (o : Nat)  : Nat → Int32 → Im → Option (Im)
  | 0, _, _ => none
  | k + 1, x1, I =>
    if 5 ≤ x1 then
      f_X9_clear_55 K R o FU 0 I
    else
      Option.bind (stI K I (R o 5) x1 0) fun I3 =>
      Option.bind (stI K I3 (R o 6) x1 0) fun I4 =>
      f_X9_clear_28 K R o k (x1 + 1) I4
def f_X9_clear (K : Sh) (R : Rf) (o : Nat)  (I : Im) : Option (Im) :=
  Option.bind (some (u2 I o 0 0)) fun I6 =>
  Option.bind (some (u2 I6 o 1 0)) fun I7 =>
  Option.bind (some (u2 I7 o 2 10)) fun I8 =>
  Option.bind (some (u2 I8 o 3 1)) fun I9 =>
  Option.bind (some (u2 I9 o 4 0)) fun I10 =>
  f_X9_clear_28 K R o FU 0 I10
def f_X4_next (K : Sh) (I : Im) (R : Rf) (o : Nat)   : Option (Int32) :=
  if (I o 3) = 0 then
    some (-1)
  else
    if (I o 1) ≤ (I o 2) then
      some (-1)
    else
      Option.bind (ldB K I (R o 0) (I o 2)) fun v1 =>
      some v1
def f_X4_take (K : Sh) (R : Rf) (o : Nat)  (x1 : Int32) (I : Im) : Option (Im) :=
  Option.bind (f_X4_next K I R o) fun q1 =>
  if q1 = x1 then
    Option.bind (some (u2 I o 2 ((I o 2) + 1))) fun I4 =>
    some I4
  else
    Option.bind (some (u2 I o 3 0)) fun I3 =>
    some I3
def f_X4_takeWord_2 (Z : Nat → Nat) (K : Sh) (R : Rf) (o : Nat)  : Nat → Option Nat → Int32 → Im → Option (Im)
  | 0, _, _, _ => none
  | k + 1, x1, x2, I =>
    Option.bind (slen Z x1) fun v1 =>
    if v1 ≤ x2 then
      Option.bind (f_X4_take K R o 32 I) fun q2 =>
      some q2
    else
      Option.bind (schr Z x1 x2) fun v4 =>
      Option.bind (f_X4_take K R o v4 I) fun q5 =>
      f_X4_takeWord_2 Z K R o k x1 (x2 + 1) q5
def f_X4_takeWord (Z : Nat → Nat) (K : Sh) (R : Rf) (o : Nat)  (x1 : Option Nat) (I : Im) : Option (Im) :=
  f_X4_takeWord_2 Z K R o FU x1 0 I
def f_X4_readNumber_53 (K : Sh) (R : Rf) (o : Nat) (r4 : Int32 → Int32 → Int32 → Im → Option (Int32 × Im)) (x1 : Int32) (x2 : Int32) (x3 : Int32) (I : Im) : Option (Int32 × Im) :=
  if x3 = 0 then
    Option.bind (some (u2 I o 3 0)) fun I1 =>
    r4 x1 x2 (x3 + 1) I1
  else
    some (x2, I)
def f_X4_readNumber_4 (K : Sh) (R : Rf) (o : Nat)  : Nat → Int32 → Int32 → Int32 → Im → Option (Int32 × Im)
  | 0, _, _, _, _ => none
  | k + 1, x1, x2, x3, I =>
    if x1 ≤ x3 then
      some (x2, I)
    else
      Option.bind (f_X4_next K I R o) fun q3 =>
      if q3 < 48 then
        f_X4_readNumber_53 K R o (f_X4_readNumber_4 K R o k) x1 x2 x3 I
      else
        if 57 < q3 then
          f_X4_readNumber_53 K R o (f_X4_readNumber_4 K R o k) x1 x2 x3 I
        else
          Option.bind (some (u2 I o 2 ((I o 2) + 1))) fun I5 =>
          f_X4_readNumber_4 K R o k x1 (((x2 * 10) + q3) - 48) (x3 + 1) I5
def f_X4_readNumber (K : Sh) (R : Rf) (o : Nat)  (x1 : Int32) (I : Im) : Option (Int32 × Im) :=
  f_X4_readNumber_4 K R o FU x1 0 0 I
def f_X9_addWay (K : Sh) (R : Rf) (o : Nat)  (x1 : Int32) (I : Im) : Option (Im) :=
  if 6 ≤ (I o 1) then
    some I
  else
    Option.bind (stI K I (R o 7) (I o 1) (imax x1 1)) fun I1 =>
    Option.bind (some (u2 I1 o 1 ((I1 o 1) + 1))) fun I2 =>
    some I2
def f_X9_addWell (K : Sh) (R : Rf) (o : Nat)  (x1 : Int32) (x2 : Int32) (I : Im) : Option (Im) :=
  if 5 ≤ (I o 0) then
    some I
  else
    Option.bind (stI K I (R o 5) (I o 0) x1) fun I1 =>
    Option.bind (stI K I1 (R o 6) (I1 o 0) x2) fun I2 =>
    Option.bind (some (u2 I2 o 0 ((I2 o 0) + 1))) fun I3 =>
    some I3
def f_X4_readWellOrWay_45 (Z : Nat → Nat) (K : Sh) (R : Rf) (o : Nat)  (x1 : Option Nat) (I : Im) : Option (Im) :=
  Option.bind (f_X4_takeWord Z K R o (some (Z 15)) I) fun q1 =>
  Option.bind (f_X4_readNumber K R o 2 q1) fun q3 =>
  Option.bind (f_X4_take K R o 32 q3.2) fun q5 =>
  Option.bind (f_X4_readNumber K R o 2 q5) fun q7 =>
  Option.bind (ob K 10 x1) fun a9 =>
  Option.bind (f_X9_addWell K R a9 q3.1 q7.1 q7.2) fun q11 =>
  some q11
def f_X4_readWellOrWay (Z : Nat → Nat) (K : Sh) (R : Rf) (o : Nat)  (x1 : Option Nat) (I : Im) : Option (Im) :=
  if (I o 1) ≤ ((I o 2) + 1) then
    f_X4_readWellOrWay_45 Z K R o x1 I
  else
    Option.bind (ldB K I (R o 0) ((I o 2) + 1)) fun v13 =>
    if v13 = 97 then
      Option.bind (f_X4_takeWord Z K R o (some (Z 14)) I) fun q14 =>
      Option.bind (f_X4_readNumber K R o 1 q14) fun q16 =>
      Option.bind (ob K 10 x1) fun a18 =>
      Option.bind (f_X9_addWay K R a18 q16.1 q16.2) fun q20 =>
      some q20
    else
      f_X4_readWellOrWay_45 Z K R o x1 I
def f_X4_hoursBelow   (x0 : Int32) : Option (Int32) :=
  if x0 < 24 then
    some ((ishl 1 x0) - 1)
  else
    some 16777215
def f_X4_hoursThat (K : Sh)  (x0 : Int32) (x1 : Int32) : Option (Int32) :=
  if x0 = 60 then
    Option.bind (f_X4_hoursBelow x1) fun q8 =>
    some q8
  else
    if x0 = 62 then
      Option.bind (f_X4_hoursBelow (x1 + 1)) fun q5 =>
      some (16777215 &&& (q5 ^^^ (-1)))
    else
      Option.bind (f_X4_hoursBelow (x1 + 1)) fun q1 =>
      Option.bind (f_X4_hoursBelow x1) fun q3 =>
      some (q1 &&& (q3 ^^^ (-1)))
def f_X4_matches   (x0 : Int32) (x1 : Int32) (x2 : Int32) : Option (Int32) :=
  if x1 = 60 then
    if x2 ≤ x0 then
      some 0
    else
      some 1
  else
    if x1 = 62 then
      if x0 ≤ x2 then
        some 0
      else
        some 1
    else
      if x0 = x2 then
        some 1
      else
        some 0
def f_X4_readTest_115 (K : Sh) (R : Rf) (o : Nat)  (x2 : Int32) (x3 : Int32) (s0 : Int32) (I : Im) : Option (Int32 × Im) :=
  Option.bind (f_X4_matches s0 x2 x3) fun q1 =>
  if q1 = 0 then
    some (0, I)
  else
    some (16777215, I)
def f_X4_readTest_70 (K : Sh) (R : Rf) (o : Nat)  (x1 : Int32) (x2 : Int32) (I : Im) : Option (Int32 × Im) :=
  Option.bind (some (u2 I o 2 ((I o 2) + 1))) fun I4 =>
  Option.bind (f_X4_readNumber K R o 2 I4) fun q5 =>
  if x1 = 104 then
    Option.bind (f_X4_hoursThat K x2 q5.1) fun q8 =>
    some (q8, q5.2)
  else
    if x1 = 98 then
      f_X4_readTest_115 K R o x2 q5.1 (q5.2 o 8) q5.2
    else
      f_X4_readTest_115 K R o x2 q5.1 (q5.2 o 9) q5.2
def f_X4_readTest_30 (K : Sh) (R : Rf) (o : Nat)  (x1 : Int32) (I : Im) : Option (Int32 × Im) :=
  Option.bind (some (u2 I o 2 ((I o 2) + 1))) fun I11 =>
  Option.bind (f_X4_next K I11 R o) fun q12 =>
  if q12 = 60 then
    f_X4_readTest_70 K R o x1 q12 I11
  else
    if q12 = 61 then
      f_X4_readTest_70 K R o x1 q12 I11
    else
      if q12 = 62 then
        f_X4_readTest_70 K R o x1 q12 I11
      else
        Option.bind (some (u2 I11 o 3 0)) fun I14 =>
        some (0, I14)
def f_X4_readTest (K : Sh) (R : Rf) (o : Nat)  (I : Im) : Option (Int32 × Im) :=
  Option.bind (f_X4_next K I R o) fun q18 =>
  if q18 = 104 then
    f_X4_readTest_30 K R o q18 I
  else
    if q18 = 98 then
      f_X4_readTest_30 K R o q18 I
    else
      if q18 = 119 then
        f_X4_readTest_30 K R o q18 I
      else
        Option.bind (some (u2 I o 3 0)) fun I20 =>
        some (0, I20)
def f_X4_readPart_85 (K : Sh) (R : Rf) (o : Nat) (g_X4_readEither : Nat → Int32 → Im → Option (Int32 × Im)) (g_X4_readPart : Nat → Int32 → Im → Option (Int32 × Im))  (x3 : Int32) (I : Im) : Option (Int32 × Im) :=
  Option.bind (f_X4_readTest K R o I) fun q1 =>
  some ((x3 ^^^ q1.1), q1.2)
def f_X4_readPart_41 (K : Sh) (R : Rf) (o : Nat) (g_X4_readEither : Nat → Int32 → Im → Option (Int32 × Im)) (g_X4_readPart : Nat → Int32 → Im → Option (Int32 × Im))  (x2 : Int32) (x3 : Int32) (I : Im) : Option (Int32 × Im) :=
  if 4 ≤ x2 then
    f_X4_readPart_85 K R o g_X4_readEither g_X4_readPart x3 I
  else
    Option.bind (f_X4_next K I R o) fun q3 =>
    if q3 = 40 then
      Option.bind (some (u2 I o 2 ((I o 2) + 1))) fun I5 =>
      Option.bind (g_X4_readEither o (x2 + 1) I5) fun q6 =>
      Option.bind (f_X4_take K R o 41 q6.2) fun q8 =>
      some ((x3 ^^^ q6.1), q8)
    else
      f_X4_readPart_85 K R o g_X4_readEither g_X4_readPart x3 I
def f_X4_readPart_4 (K : Sh) (R : Rf) (o : Nat) (g_X4_readEither : Nat → Int32 → Im → Option (Int32 × Im)) (g_X4_readPart : Nat → Int32 → Im → Option (Int32 × Im))  : Nat → Int32 → Int32 → Im → Option (Int32 × Im)
  | 0, _, _, _ => none
  | k + 1, x2, x3, I =>
    if 4 ≤ x2 then
      f_X4_readPart_41 K R o g_X4_readEither g_X4_readPart x2 x3 I
    else
      Option.bind (f_X4_next K I R o) fun q12 =>
      if q12 = 33 then
        Option.bind (some (u2 I o 2 ((I o 2) + 1))) fun I14 =>
        f_X4_readPart_4 K R o g_X4_readEither g_X4_readPart k (x2 + 1) (16777215 &&& (x3 ^^^ (-1))) I14
      else
        f_X4_readPart_41 K R o g_X4_readEither g_X4_readPart x2 x3 I
def f_X4_readPart_0 (K : Sh) (R : Rf) (o : Nat) (g_X4_readEither : Nat → Int32 → Im → Option (Int32 × Im)) (g_X4_readPart : Nat → Int32 → Im → Option (Int32 × Im))  (x1 : Int32) (I : Im) : Option (Int32 × Im) :=
  f_X4_readPart_4 K R o g_X4_readEither g_X4_readPart FU x1 0 I
def f_X4_readEither_96 (K : Sh) (R : Rf) (o : Nat) (g_X4_readEither : Nat → Int32 → Im → Option (Int32 × Im)) (g_X4_readPart : Nat → Int32 → Im → Option (Int32 × Im)) (r11 : Int32 → Int32 → Int32 → Int32 → Im → Option (Int32 × Im)) (x1 : Int32) (x2 : Int32) (x4 : Int32) (s0 : Int32) (I : Im) : Option (Int32 × Im) :=
  r11 x1 x2 s0 (x4 + 1) I
def f_X4_readEither_80 (K : Sh) (R : Rf) (o : Nat) (g_X4_readEither : Nat → Int32 → Im → Option (Int32 × Im)) (g_X4_readPart : Nat → Int32 → Im → Option (Int32 × Im)) (r11 : Int32 → Int32 → Int32 → Int32 → Im → Option (Int32 × Im)) (x1 : Int32) (x3 : Int32) (x4 : Int32) (x5 : Int32) (x6 : Int32) (s0 : Int32) (s1 : Int32) (I : Im) : Option (Int32 × Im) :=
  if x5 = 0 then
    f_X4_readEither_96 K R o g_X4_readEither g_X4_readPart r11 x1 (s0 ||| s1) x4 (x3 &&& x6) I
  else
    f_X4_readEither_96 K R o g_X4_readEither g_X4_readPart r11 x1 (s0 ||| s1) x4 x6 I
def f_X4_readEither_50 (K : Sh) (R : Rf) (o : Nat) (g_X4_readEither : Nat → Int32 → Im → Option (Int32 × Im)) (g_X4_readPart : Nat → Int32 → Im → Option (Int32 × Im)) (r11 : Int32 → Int32 → Int32 → Int32 → Im → Option (Int32 × Im)) (x1 : Int32) (x2 : Int32) (x3 : Int32) (x4 : Int32) (s0 : Int32) (I : Im) : Option (Int32 × Im) :=
  Option.bind (some (u2 I o 2 ((I o 2) + 1))) fun I2 =>
  Option.bind (g_X4_readPart o x1 I2) fun q3 =>
  if s0 = 0 then
    f_X4_readEither_80 K R o g_X4_readEither g_X4_readPart r11 x1 x3 x4 s0 q3.1 x2 0 q3.2
  else
    f_X4_readEither_80 K R o g_X4_readEither g_X4_readPart r11 x1 x3 x4 s0 q3.1 x2 x3 q3.2
def f_X4_readEither_36 (K : Sh) (R : Rf) (o : Nat) (g_X4_readEither : Nat → Int32 → Im → Option (Int32 × Im)) (g_X4_readPart : Nat → Int32 → Im → Option (Int32 × Im)) (r11 : Int32 → Int32 → Int32 → Int32 → Im → Option (Int32 × Im)) (x1 : Int32) (x2 : Int32) (x3 : Int32) (x4 : Int32) (I : Im) : Option (Int32 × Im) :=
  Option.bind (f_X4_next K I R o) fun q6 =>
  if q6 = 124 then
    f_X4_readEither_50 K R o g_X4_readEither g_X4_readPart r11 x1 x2 x3 x4 1 I
  else
    f_X4_readEither_50 K R o g_X4_readEither g_X4_readPart r11 x1 x2 x3 x4 0 I
def f_X4_readEither_11 (K : Sh) (R : Rf) (o : Nat) (g_X4_readEither : Nat → Int32 → Im → Option (Int32 × Im)) (g_X4_readPart : Nat → Int32 → Im → Option (Int32 × Im))  : Nat → Int32 → Int32 → Int32 → Int32 → Im → Option (Int32 × Im)
  | 0, _, _, _, _, _ => none
  | k + 1, x1, x2, x3, x4, I =>
    if 100 ≤ x4 then
      some ((x2 ||| x3), I)
    else
      Option.bind (f_X4_next K I R o) fun q9 =>
      if q9 = 124 then
        f_X4_readEither_36 K R o g_X4_readEither g_X4_readPart (f_X4_readEither_11 K R o g_X4_readEither g_X4_readPart k) x1 x2 x3 x4 I
      else
        Option.bind (f_X4_next K I R o) fun q11 =>
        if q11 = 38 then
          f_X4_readEither_36 K R o g_X4_readEither g_X4_readPart (f_X4_readEither_11 K R o g_X4_readEither g_X4_readPart k) x1 x2 x3 x4 I
        else
          some ((x2 ||| x3), I)
def f_X4_readEither_0 (K : Sh) (R : Rf) (o : Nat) (g_X4_readEither : Nat → Int32 → Im → Option (Int32 × Im)) (g_X4_readPart : Nat → Int32 → Im → Option (Int32 × Im))  (x1 : Int32) (I : Im) : Option (Int32 × Im) :=
  Option.bind (g_X4_readPart o x1 I) fun q16 =>
  f_X4_readEither_11 K R o g_X4_readEither g_X4_readPart FU x1 0 q16.1 0 q16.2
def F_X4_EP (K : Sh) (R : Rf) : Nat → (Nat → Int32 → Im → Option (Int32 × Im)) × (Nat → Int32 → Im → Option (Int32 × Im))
  | 0 => ((fun _ _ _ => none), (fun _ _ _ => none))
  | d + 1 => ((fun o x1 I => f_X4_readEither_0 K R o (F_X4_EP K R d).1 (F_X4_EP K R d).2 x1 I), (fun o x1 I => f_X4_readPart_0 K R o (F_X4_EP K R d).1 (F_X4_EP K R d).2 x1 I))
def f_X4_readEither (K : Sh) (R : Rf) (o : Nat) (x1 : Int32) (I : Im) : Option (Int32 × Im) := (F_X4_EP K R 14).1 o x1 I
def f_X4_readPart (K : Sh) (R : Rf) (o : Nat) (x1 : Int32) (I : Im) : Option (Int32 × Im) := (F_X4_EP K R 14).2 o x1 I
def f_X4_keepDrink (K : Sh) (R : Rf) (o : Nat)  (x1 : Int32) (x2 : Int32) (I : Im) : Option (Im) :=
  if 12 ≤ (I o 4) then
    some I
  else
    Option.bind (stI K I (R o 5) (I o 4) x1) fun I1 =>
    Option.bind (stI K I1 (R o 6) (I1 o 4) x2) fun I2 =>
    Option.bind (some (u2 I2 o 4 ((I2 o 4) + 1))) fun I3 =>
    some I3
def f_X4_readClause (Z : Nat → Nat) (K : Sh) (R : Rf) (o : Nat)  (x1 : Option Nat) (I : Im) : Option (Im) :=
  Option.bind (f_X4_next K I R o) fun q1 =>
  if q1 = 99 then
    Option.bind (f_X4_takeWord Z K R o (some (Z 11)) I) fun q3 =>
    Option.bind (f_X4_readNumber K R o 2 q3) fun q5 =>
    Option.bind (ob K 10 x1) fun a7 =>
    Option.bind (some (u2 q5.2 a7 2 q5.1)) fun I9 =>
    some I9
  else
  if q1 = 100 then
    Option.bind (f_X4_takeWord Z K R o (some (Z 10)) I) fun q11 =>
    Option.bind (f_X4_readNumber K R o 2 q11) fun q13 =>
    Option.bind (f_X4_take K R o 32 q13.2) fun q15 =>
    Option.bind (f_X4_readEither K R o 0 q15) fun q17 =>
    Option.bind (f_X4_keepDrink K R o q13.1 (q15 o 2) q17.2) fun q19 =>
    some q19
  else
  if q1 = 108 then
    Option.bind (f_X4_takeWord Z K R o (some (Z 12)) I) fun q22 =>
    Option.bind (f_X4_readNumber K R o 2 q22) fun q24 =>
    Option.bind (ob K 10 x1) fun a26 =>
    Option.bind (some (u2 q24.2 a26 3 q24.1)) fun I28 =>
    some I28
  else
  if q1 = 115 then
    Option.bind (f_X4_takeWord Z K R o (some (Z 13)) I) fun q30 =>
    Option.bind (f_X4_readNumber K R o 2 q30) fun q32 =>
    Option.bind (ob K 10 x1) fun a34 =>
    Option.bind (some (u2 q32.2 a34 4 q32.1)) fun I36 =>
    some I36
  else
  if q1 = 119 then
    Option.bind (f_X4_readWellOrWay Z K R o x1 I) fun q38 =>
    some q38
  else
  Option.bind (some (u2 I o 3 0)) fun I41 =>
  some I41
def f_X9_makeSums (o : Nat)  (K : Sh) (n : Nat) (I : Im) (R : Rf) : Option (Sh × Nat × Im × Rf) :=
  Option.bind (ob K 10 (some o)) fun a1 =>
  if (R a1 8) = none then
    Option.bind (some (u1 K n (21, 1782))) fun K3 =>
    Option.bind (some (zr I n 0)) fun I4 =>
    Option.bind (ob K3 10 (some o)) fun a5 =>
    Option.bind (some (u2 R a5 8 (some n))) fun R7 =>
    some (K3, (n + 1), I4, R7)
  else
    some (K, n, I, R)
def f_X4_sumUp_93 (K : Sh) (R : Rf) (o : Nat) (r69 : Option Nat → Int32 → Int32 → Im → Option (Im)) : Nat → Option Nat → Int32 → Int32 → Int32 → Int32 → Im → Option (Im)
  | 0, _, _, _, _, _, _ => none
  | k + 1, x1, x4, x5, x6, x7, I =>
    if (I o 4) ≤ x7 then
      Option.bind (ob K 10 x1) fun a1 =>
      Option.bind (stI K I (R a1 8) ((x4 + x5) + 1) x6) fun I3 =>
      r69 x1 x4 (x5 + 1) I3
    else
      Option.bind (ldI K I (R o 7) x7) fun v4 =>
      if ((ishr v4 (irem x5 24)) &&& 1) = 1 then
        Option.bind (ldI K I (R o 5) x7) fun v5 =>
        f_X4_sumUp_93 K R o r69 k x1 x4 x5 (x6 + v5) (x7 + 1) I
      else
        f_X4_sumUp_93 K R o r69 k x1 x4 x5 x6 (x7 + 1) I
def f_X4_sumUp_69 (K : Sh) (R : Rf) (o : Nat)  : Nat → Option Nat → Int32 → Int32 → Im → Option (Im)
  | 0, _, _, _, _ => none
  | k + 1, x1, x4, x5, I =>
    if 33 ≤ (x5 + 1) then
      some I
    else
      Option.bind (ob K 10 x1) fun a8 =>
      Option.bind (ldI K I (R a8 8) (x4 + x5)) fun v10 =>
      f_X4_sumUp_93 K R o (f_X4_sumUp_69 K R o k) FU x1 x4 x5 v10 0 I
def f_X4_sumUp_13 (K : Sh) (R : Rf) (o : Nat)  : Nat → Option Nat → Int32 → Int32 → Int32 → Im → Option (Im)
  | 0, _, _, _, _, _ => none
  | k + 1, x1, x2, x3, x4, I =>
    if (I o 4) ≤ x4 then
      Option.bind (f_X9_sumsOf x2 x3) fun q12 =>
      Option.bind (ob K 10 x1) fun a14 =>
      Option.bind (stI K I (R a14 8) q12 0) fun I16 =>
      f_X4_sumUp_69 K R o FU x1 q12 0 I16
    else
      Option.bind (ldI K I (R o 6) x4) fun v17 =>
      Option.bind (some (u2 I o 2 v17)) fun I18 =>
      Option.bind (f_X4_readEither K R o 0 I18) fun q19 =>
      Option.bind (stI K q19.2 (R o 7) x4 q19.1) fun I21 =>
      f_X4_sumUp_13 K R o k x1 x2 x3 (x4 + 1) I21
def f_X4_sumUp (K : Sh) (R : Rf) (o : Nat)  (x1 : Option Nat) (x2 : Int32) (x3 : Int32) (I : Im) : Option (Im) :=
  Option.bind (some (u2 I o 8 x3)) fun I23 =>
  Option.bind (some (u2 I23 o 9 x2)) fun I24 =>
  f_X4_sumUp_13 K R o FU x1 x2 x3 0 I24
def f_X4_readInto_99 (Z : Nat → Nat) (o : Nat) (r91 : Option Nat → Int32 → Sh → Nat → Im → Rf → Option (Int32 × Sh × Nat × Im × Rf)) : Nat → Option Nat → Int32 → Int32 → Sh → Nat → Im → Rf → Option (Int32 × Sh × Nat × Im × Rf)
  | 0, _, _, _, _, _, _, _ => none
  | k + 1, x1, x2, x3, K, n, I, R =>
    if 9 < x3 then
      r91 x1 (x2 + 1) K n I R
    else
      Option.bind (ob K 5 (some o)) fun a1 =>
      Option.bind (f_X4_sumUp K R a1 x1 x2 x3 I) fun q3 =>
      f_X4_readInto_99 Z o r91 k x1 x2 (x3 + 1) K n q3 R
def f_X4_readInto_91 (Z : Nat → Nat) (o : Nat)  : Nat → Option Nat → Int32 → Sh → Nat → Im → Rf → Option (Int32 × Sh × Nat × Im × Rf)
  | 0, _, _, _, _, _, _ => none
  | k + 1, x1, x2, K, n, I, R =>
    if 6 ≤ x2 then
      some ((-1), K, n, I, R)
    else
      f_X4_readInto_99 Z o (f_X4_readInto_91 Z o k) FU x1 x2 1 K n I R
def f_X4_readInto_62 (Z : Nat → Nat) (o : Nat)  (x1 : Option Nat) (K : Sh) (n : Nat) (I : Im) (R : Rf) : Option (Int32 × Sh × Nat × Im × Rf) :=
  Option.bind (ob K 5 (some o)) fun a7 =>
  if (I a7 3) = 0 then
    some ((I a7 2), K, n, I, R)
  else
    if (I a7 1) ≤ (I a7 2) then
      Option.bind (ob K 10 x1) fun a9 =>
      Option.bind (f_X9_makeSums a9 K n I R) fun q11 =>
      f_X4_readInto_91 Z o FU x1 0 q11.1 q11.2.1 q11.2.2.1 q11.2.2.2
    else
      some ((I a7 2), K, n, I, R)
def f_X4_readInto_26 (Z : Nat → Nat) (o : Nat)  : Nat → Option Nat → Int32 → Sh → Nat → Im → Rf → Option (Int32 × Sh × Nat × Im × Rf)
  | 0, _, _, _, _, _, _ => none
  | k + 1, x1, x2, K, n, I, R =>
    if 12 ≤ x2 then
      f_X4_readInto_62 Z o x1 K n I R
    else
      Option.bind (ob K 5 (some o)) fun a15 =>
      Option.bind (f_X4_next K I R a15) fun q17 =>
      if q17 = 59 then
        Option.bind (some (u2 I a15 2 ((I a15 2) + 1))) fun I19 =>
        Option.bind (f_X4_readClause Z K R a15 x1 I19) fun q20 =>
        f_X4_readInto_26 Z o k x1 (x2 + 1) K n q20 R
      else
        f_X4_readInto_62 Z o x1 K n I R
def f_X4_readInto (Z : Nat → Nat) (o : Nat)  (x1 : Option Nat) (K : Sh) (n : Nat) (I : Im) (R : Rf) : Option (Int32 × Sh × Nat × Im × Rf) :=
  Option.bind (ob K 10 x1) fun a24 =>
  Option.bind (f_X9_clear K R a24 I) fun q26 =>
  Option.bind (ob K 5 (some o)) fun a28 =>
  Option.bind (some (u2 q26 a28 2 0)) fun I30 =>
  Option.bind (some (u2 I30 a28 3 1)) fun I31 =>
  Option.bind (some (u2 I31 a28 4 0)) fun I32 =>
  Option.bind (f_X4_readClause Z K R a28 x1 I32) fun q33 =>
  f_X4_readInto_26 Z o FU x1 1 K n q33 R
def f_X5_init (o : Nat)  (x1 : Int32) (x2 : Int32) (x3 : Int32) (K : Sh) (n : Nat) (I : Im) (R : Rf) : Option (Sh × Nat × Im × Rf) :=
  Option.bind (some (u1 K n (21, 5))) fun K1 =>
  Option.bind (some (zr I n 0)) fun I2 =>
  Option.bind (ob K1 6 (some o)) fun a3 =>
  Option.bind (some (u2 R a3 3 (some n))) fun R5 =>
  Option.bind (some (u2 I2 a3 0 x1)) fun I6 =>
  Option.bind (some (u2 I6 a3 1 x2)) fun I7 =>
  Option.bind (some (u2 I7 a3 2 x3)) fun I8 =>
  some (K1, (n + 1), I8, R5)
def f_X5_waitFor_3 (K : Sh) (I : Im) (R : Rf) (o : Nat)  : Nat → Option Nat → Int32 → Int32 → Int32 → Int32 → Option (Int32)
  | 0, _, _, _, _, _ => none
  | k + 1, x1, x2, x3, x4, x5 =>
    if (I o 2) ≤ x5 then
      some (I o 2)
    else
      Option.bind (ob K 11 x1) fun a1 =>
      Option.bind (f_X10_heldAt K I R a1 x2 (x3 + x5)) fun q3 =>
      if q3 < x4 then
        f_X5_waitFor_3 K I R o k x1 x2 x3 x4 (x5 + 1)
      else
        some x5
def f_X5_waitFor (K : Sh) (I : Im) (R : Rf) (o : Nat)  (x1 : Option Nat) (x2 : Int32) (x3 : Int32) (x4 : Int32) : Option (Int32) :=
  f_X5_waitFor_3 K I R o FU x1 x2 x3 x4 0
def f_X5_tillNoon (K : Sh) (I : Im) (o : Nat)  (x1 : Int32) : Option (Int32) :=
  if (irem x1 24) < 12 then
    some (imin (12 - (irem x1 24)) (I o 2))
  else
    some 0
def f_X5_standAt (K : Sh) (I : Im) (R : Rf) (o : Nat)  (x1 : Option Nat) (x2 : Int32) (x3 : Int32) (x4 : Int32) (x5 : Int32) : Option (Int32) :=
  if (I o 0) = 1 then
    Option.bind (f_X5_waitFor K I R o x1 x2 x3 (x5 - x4)) fun q1 =>
    some q1
  else
  if (I o 0) = 2 then
    Option.bind (f_X5_tillNoon K I o x3) fun q4 =>
    some q4
  else
  if (I o 0) = 3 then
    some 0
  else
  if (I o 0) = 4 then
    Option.bind (f_X5_waitFor K I R o x1 x2 x3 (x5 - x4)) fun q8 =>
    some (imin (q8 + 1) 6)
  else
  if (I o 0) = 5 then
    some 0
  else
  if (I o 0) = 6 then
    if x5 ≤ (2 * x4) then
      Option.bind (f_X5_tillNoon K I o x3) fun q12 =>
      some q12
    else
      some 0
  else
  some 0
def f_X10_init (o : Nat)  (K : Sh) (n : Nat) (I : Im) (R : Rf) : Option (Sh × Nat × Im × Rf) :=
  Option.bind (some (u1 K n (21, 5))) fun K1 =>
  Option.bind (some (zr I n 0)) fun I2 =>
  Option.bind (ob K1 11 (some o)) fun a3 =>
  Option.bind (some (u2 R a3 0 (some n))) fun R5 =>
  Option.bind (some (u1 K1 (n + 1) (21, 5))) fun K6 =>
  Option.bind (some (zr I2 (n + 1) 0)) fun I7 =>
  Option.bind (ob K6 11 (some o)) fun a8 =>
  Option.bind (some (u2 R5 a8 1 (some (n + 1)))) fun R10 =>
  Option.bind (some (u1 K6 (n + 2) (21, 5))) fun K11 =>
  Option.bind (some (zr I7 (n + 2) 0)) fun I12 =>
  Option.bind (ob K11 11 (some o)) fun a13 =>
  Option.bind (some (u2 R10 a13 2 (some (n + 2)))) fun R15 =>
  Option.bind (some (u1 K11 (n + 3) (21, 5))) fun K16 =>
  Option.bind (some (zr I12 (n + 3) 0)) fun I17 =>
  Option.bind (ob K16 11 (some o)) fun a18 =>
  Option.bind (some (u2 R15 a18 3 (some (n + 3)))) fun R20 =>
  some (K16, (n + 4), I17, R20)
def f_X6_init (o : Nat)  (K : Sh) (n : Nat) (I : Im) (R : Rf) : Option (Sh × Nat × Im × Rf) :=
  Option.bind (ob K 7 (some o)) fun a1 =>
  Option.bind (some (u2 R a1 0 none)) fun R3 =>
  Option.bind (some (u1 K n (11, 4))) fun K4 =>
  Option.bind (some (zr I n 0)) fun I5 =>
  Option.bind (some (zr R3 n none)) fun R6 =>
  Option.bind (f_X10_init n K4 (n + 1) I5 R6) fun q7 =>
  Option.bind (ob q7.1 7 (some o)) fun a9 =>
  Option.bind (some (u2 q7.2.2.2 a9 1 (some n))) fun R11 =>
  Option.bind (some (u1 q7.1 q7.2.1 (21, 5))) fun K12 =>
  Option.bind (some (zr q7.2.2.1 q7.2.1 0)) fun I13 =>
  Option.bind (ob K12 7 (some o)) fun a14 =>
  Option.bind (some (u2 R11 a14 2 (some q7.2.1))) fun R16 =>
  Option.bind (some (u1 K12 (q7.2.1 + 1) (21, 3))) fun K17 =>
  Option.bind (some (zr I13 (q7.2.1 + 1) 0)) fun I18 =>
  Option.bind (ob K17 7 (some o)) fun a19 =>
  Option.bind (some (u2 R16 a19 3 (some (q7.2.1 + 1)))) fun R21 =>
  Option.bind (some (u1 K17 (q7.2.1 + 2) (21, 5))) fun K22 =>
  Option.bind (some (zr I18 (q7.2.1 + 2) 0)) fun I23 =>
  Option.bind (ob K22 7 (some o)) fun a24 =>
  Option.bind (some (u2 R21 a24 5 (some (q7.2.1 + 2)))) fun R26 =>
  some (K22, (q7.2.1 + 3), I23, R26)
def f_X10_become_2 (K : Sh) (R : Rf) (o : Nat)  : Nat → Option Nat → Int32 → Im → Option (Im)
  | 0, _, _, _ => none
  | k + 1, x1, x2, I =>
    if 5 ≤ x2 then
      some I
    else
      Option.bind (ob K 11 x1) fun a1 =>
      Option.bind (ldI K I (R a1 0) x2) fun v3 =>
      Option.bind (stI K I (R o 0) x2 v3) fun I4 =>
      Option.bind (ldI K I4 (R a1 1) x2) fun v5 =>
      Option.bind (stI K I4 (R o 1) x2 v5) fun I6 =>
      Option.bind (ldI K I6 (R a1 2) x2) fun v7 =>
      Option.bind (stI K I6 (R o 2) x2 v7) fun I8 =>
      Option.bind (ldI K I8 (R a1 3) x2) fun v9 =>
      Option.bind (stI K I8 (R o 3) x2 v9) fun I10 =>
      f_X10_become_2 K R o k x1 (x2 + 1) I10
def f_X10_become (K : Sh) (R : Rf) (o : Nat)  (x1 : Option Nat) (I : Im) : Option (Im) :=
  f_X10_become_2 K R o FU x1 0 I
def f_X6_become_74 (K : Sh) (o : Nat)  : Nat → Option Nat → Int32 → Im → Rf → Option (Im × Rf)
  | 0, _, _, _, _ => none
  | k + 1, x1, x2, I, R =>
    if 3 ≤ x2 then
      some (I, R)
    else
      Option.bind (ob K 7 x1) fun a1 =>
      Option.bind (ldI K I (R a1 3) x2) fun v3 =>
      Option.bind (stI K I (R o 3) x2 v3) fun I4 =>
      f_X6_become_74 K o k x1 (x2 + 1) I4 R
def f_X6_become_37 (K : Sh) (o : Nat)  : Nat → Option Nat → Int32 → Im → Rf → Option (Im × Rf)
  | 0, _, _, _, _ => none
  | k + 1, x1, x2, I, R =>
    if 5 ≤ x2 then
      f_X6_become_74 K o FU x1 0 I R
    else
      Option.bind (ob K 7 x1) fun a6 =>
      Option.bind (ldI K I (R a6 2) x2) fun v8 =>
      Option.bind (stI K I (R o 2) x2 v8) fun I9 =>
      Option.bind (ldI K I9 (R a6 5) x2) fun v10 =>
      Option.bind (stI K I9 (R o 5) x2 v10) fun I11 =>
      f_X6_become_37 K o k x1 (x2 + 1) I11 R
def f_X6_become (K : Sh) (o : Nat)  (x1 : Option Nat) (I : Im) (R : Rf) : Option (Im × Rf) :=
  Option.bind (ob K 7 x1) fun a13 =>
  Option.bind (some (u2 R o 0 (R a13 0))) fun R15 =>
  Option.bind (ob K 11 (R15 o 1)) fun a16 =>
  Option.bind (f_X10_become K R15 a16 (R15 a13 1) I) fun q18 =>
  Option.bind (some (u2 q18 o 4 (q18 a13 4))) fun I20 =>
  Option.bind (some (u2 I20 o 6 (I20 a13 6))) fun I21 =>
  f_X6_become_37 K o FU x1 0 I21 R15
def f_X6_emptyHand_7 (K : Sh) (R : Rf) (o : Nat)  : Nat → Int32 → Im → Option (Im)
  | 0, _, _ => none
  | k + 1, x1, I =>
    if 5 ≤ x1 then
      some I
    else
      Option.bind (stI K I (R o 5) x1 0) fun I1 =>
      f_X6_emptyHand_7 K R o k (x1 + 1) I1
def f_X6_emptyHand (K : Sh) (R : Rf) (o : Nat)  (I : Im) : Option (Im) :=
  Option.bind (some (u2 I o 6 0)) fun I3 =>
  f_X6_emptyHand_7 K R o FU 0 I3
def f_X7_init (o : Nat)  (K : Sh) (n : Nat) (I : Im) (J : Jm) (R : Rf) : Option (Sh × Nat × Im × Jm × Rf) :=
  Option.bind (ob K 8 (some o)) fun a1 =>
  Option.bind (some (u2 I a1 0 (-1))) fun I3 =>
  Option.bind (some (u1 K n (22, 60))) fun K4 =>
  Option.bind (some (zr J n 0)) fun J5 =>
  Option.bind (ob K4 8 (some o)) fun a6 =>
  Option.bind (some (u2 R a6 2 (some n))) fun R8 =>
  some (K4, (n + 1), I3, J5, R8)
def f_X7_become_12 (K : Sh) (R : Rf) (o : Nat)  : Nat → Int32 → Im → Jm → Option (Im × Jm)
  | 0, _, _, _ => none
  | k + 1, x3, I, J =>
    if 60 ≤ x3 then
      some (I, J)
    else
      Option.bind (stJ K J (R o 2) x3 (0 : Int64)) fun J1 =>
      f_X7_become_12 K R o k (x3 + 1) I J1
def f_X7_become (K : Sh) (R : Rf) (o : Nat)  (x1 : Int32) (x2 : Int32) (I : Im) (J : Jm) : Option (Im × Jm) :=
  Option.bind (some (u2 I o 0 x1)) fun I3 =>
  Option.bind (some (u2 I3 o 1 x2)) fun I4 =>
  f_X7_become_12 K R o FU 0 I4 J
def f_X7_isPlace (K : Sh) (I : Im) (o : Nat)  (x1 : Int32) : Option (Int32) :=
  if x1 < 0 then
    some 0
  else
    if (I o 1) ≤ x1 then
      some 0
    else
      some 1
def f_X7_isStretch (K : Sh) (I : Im) (o : Nat)  (x1 : Int32) (x2 : Int32) : Option (Int32) :=
  if x1 < 0 then
    some 0
  else
    if x2 < 0 then
      some 0
    else
      if (I o 1) < x1 then
        some 0
      else
        if ((I o 1) - x1) < x2 then
          some 0
        else
          some 1
def f_X7_narrowed (K : Sh) (I : Im) (o : Nat)  (x1 : Int64) : Option (Int64) :=
  if (I o 0) = 0 then
    some (((x1.toInt32).toInt8.toInt32).toInt64)
  else
  if (I o 0) = 1 then
    some (((x1.toInt32).toInt16.toInt32).toInt64)
  else
  if (I o 0) = 2 then
    some ((x1.toInt32).toInt64)
  else
  if (I o 0) = 3 then
    some x1
  else
  if (lg_cmp x1 (0 : Int64)) = 0 then
    some (0 : Int64)
  else
    some (1 : Int64)
def f_X8_init (o : Nat)  (K : Sh) (n : Nat) (I : Im) (R : Rf) : Option (Sh × Nat × Im × Rf) :=
  Option.bind (some (u1 K n (21, 5))) fun K1 =>
  Option.bind (some (zr I n 0)) fun I2 =>
  Option.bind (ob K1 9 (some o)) fun a3 =>
  Option.bind (some (u2 R a3 2 (some n))) fun R5 =>
  Option.bind (some (u1 K1 (n + 1) (21, 5))) fun K6 =>
  Option.bind (some (zr I2 (n + 1) 0)) fun I7 =>
  Option.bind (ob K6 9 (some o)) fun a8 =>
  Option.bind (some (u2 R5 a8 3 (some (n + 1)))) fun R10 =>
  some (K6, (n + 2), I7, R10)
def f_X8_begin_14 (K : Sh) (R : Rf) (o : Nat)  : Nat → Option Nat → Option Nat → Int32 → Im → Option (Im)
  | 0, _, _, _, _ => none
  | k + 1, x1, x2, x3, I =>
    if 5 ≤ x3 then
      Option.bind (ob K 2 x2) fun a1 =>
      Option.bind (some (u2 I o 4 (I a1 1))) fun I3 =>
      Option.bind (ob K 10 x1) fun a4 =>
      Option.bind (some (u2 I3 o 6 ((I3 a4 2) * (I3 a1 0)))) fun I6 =>
      Option.bind (some (u2 I6 o 7 ((I6 a4 4) * (I6 a1 0)))) fun I7 =>
      Option.bind (some (u2 I7 o 5 (I7 o 6))) fun I8 =>
      some I8
    else
      Option.bind (stI K I (R o 2) x3 (-5)) fun I9 =>
      Option.bind (stI K I9 (R o 3) x3 (-5)) fun I10 =>
      f_X8_begin_14 K R o k x1 x2 (x3 + 1) I10
def f_X8_begin (K : Sh) (R : Rf) (o : Nat)  (x1 : Option Nat) (x2 : Option Nat) (I : Im) : Option (Im) :=
  Option.bind (some (u2 I o 0 (-5))) fun I12 =>
  Option.bind (some (u2 I12 o 1 (-5))) fun I13 =>
  f_X8_begin_14 K R o FU x1 x2 0 I13
def f_X8_walk (K : Sh) (R : Rf) (o : Nat)  (x1 : Option Nat) (x2 : Int32) (x3 : Int32) (I : Im) : Option (Int32 × Im) :=
  Option.bind (ob K 10 x1) fun a1 =>
  Option.bind (f_X9_drunkAlong K I R a1 x2 (I o 4) x3) fun q3 =>
  if q3 ≤ (I o 5) then
    Option.bind (some (u2 I o 5 ((I o 5) - q3))) fun I5 =>
    Option.bind (ldI K I5 (R a1 7) x2) fun v6 =>
    Option.bind (some (u2 I5 o 4 ((I5 o 4) + v6))) fun I7 =>
    some (1, I7)
  else
    some (0, I)
def f_X8_linger (K : Sh) (o : Nat)  (x1 : Int32) (I : Im) : Option (Int32 × Im) :=
  if 0 < x1 then
    if (x1 * (I o 7)) ≤ (I o 5) then
      Option.bind (some (u2 I o 5 ((I o 5) - (x1 * (I o 7))))) fun I1 =>
      Option.bind (some (u2 I1 o 4 ((I1 o 4) + x1))) fun I2 =>
      some (1, I2)
    else
      some (0, I)
  else
    some (1, I)
def f_X10_draw (K : Sh) (R : Rf) (o : Nat)  (x1 : Int32) (x2 : Int32) (x3 : Int32) (I : Im) : Option (Int32 × Im) :=
  Option.bind (f_X10_heldAt K I R o x1 x2) fun q1 =>
  Option.bind (stI K I (R o 2) x1 (q1 - (imin q1 x3))) fun I3 =>
  Option.bind (stI K I3 (R o 3) x1 x2) fun I4 =>
  some ((imin q1 x3), I4)
def f_X8_visit_65 (K : Sh) (R : Rf) (o : Nat)  (x1 : Option Nat) (x2 : Int32) (s0 : Option Nat) (s1 : Int32) (s2 : Int32) (I : Im) : Option (Int32 × Im) :=
  Option.bind (stI K I s0 s1 s2) fun I1 =>
  Option.bind (ldI K I1 (R o 2) x2) fun v2 =>
  Option.bind (f_X8_linger K o v2 I1) fun q3 =>
  if q3.1 = 0 then
    some (0, q3.2)
  else
    Option.bind (ob K 11 x1) fun a5 =>
    Option.bind (f_X10_draw K R a5 x2 (q3.2 o 4) ((q3.2 o 6) - (q3.2 o 5)) q3.2) fun q7 =>
    Option.bind (some (u2 q7.2 o 5 ((q3.2 o 5) + q7.1))) fun I9 =>
    some (1, I9)
def f_X8_visit (K : Sh) (R : Rf) (o : Nat)  (x1 : Option Nat) (x2 : Int32) (x3 : Option Nat) (x4 : Option Nat) (I : Im) : Option (Int32 × Im) :=
  Option.bind (stI K I (R o 3) x2 (I o 5)) fun I11 =>
  Option.bind (ob K 11 x1) fun a12 =>
  Option.bind (ldI K I11 (R a12 3) x2) fun v14 =>
  Option.bind (f_X8_linger K o (v14 - (I11 o 4)) I11) fun q15 =>
  if q15.1 = 0 then
    some (0, q15.2)
  else
    if x4 = none then
      Option.bind (ob K 6 x3) fun a18 =>
      Option.bind (f_X5_standAt K q15.2 R a18 x1 x2 (q15.2 o 4) (q15.2 o 5) (q15.2 o 6)) fun q20 =>
      f_X8_visit_65 K R o x1 x2 (R o 2) x2 q20 q15.2
    else
      Option.bind (ldI K q15.2 x4 x2) fun v17 =>
      f_X8_visit_65 K R o x1 x2 (R o 2) x2 v17 q15.2
def f_X8_make_80 (K : Sh) (R : Rf) (o : Nat)  (x1 : Option Nat) (x3 : Option Nat) (I : Im) : Option (Im) :=
  if (I o 1) = (-5) then
    Option.bind (ob K 10 x1) fun a1 =>
    Option.bind (ob K 2 x3) fun a3 =>
    Option.bind (f_X8_walk K R o x1 (I a1 0) (I a3 0) I) fun q5 =>
    if q5.1 = 0 then
      Option.bind (some (u2 q5.2 o 1 (q5.2 a1 0))) fun I7 =>
      some I7
    else
      Option.bind (some (u2 q5.2 o 0 (q5.2 o 4))) fun I8 =>
      some I8
  else
    some I
def f_X8_make_9 (K : Sh) (R : Rf) (o : Nat)  : Nat → Option Nat → Option Nat → Option Nat → Option Nat → Int32 → Im → Option (Im)
  | 0, _, _, _, _, _, _ => none
  | k + 1, x1, x2, x3, x4, x5, I =>
    Option.bind (ob K 10 x1) fun a11 =>
    if (I a11 0) ≤ x5 then
      f_X8_make_80 K R o x1 x3 I
    else
      if (I o 1) = (-5) then
        Option.bind (ob K 2 x3) fun a13 =>
        Option.bind (f_X8_walk K R o x1 x5 (I a13 0) I) fun q15 =>
        if q15.1 = 0 then
          Option.bind (some (u2 q15.2 o 1 x5)) fun I21 =>
          f_X8_make_9 K R o k x1 x2 x3 x4 (x5 + 1) I21
        else
          Option.bind (f_X8_visit K R o x2 x5 (R a13 2) x4 q15.2) fun q17 =>
          if q17.1 = 0 then
            Option.bind (some (u2 q17.2 o 1 (x5 + 1))) fun I19 =>
            f_X8_make_9 K R o k x1 x2 x3 x4 (x5 + 1) I19
          else
            f_X8_make_9 K R o k x1 x2 x3 x4 (x5 + 1) q17.2
      else
        f_X8_make_80 K R o x1 x3 I
def f_X8_make (K : Sh) (R : Rf) (o : Nat)  (x1 : Option Nat) (x2 : Option Nat) (x3 : Option Nat) (x4 : Option Nat) (I : Im) : Option (Im) :=
  Option.bind (f_X8_begin K R o x1 x3 I) fun q25 =>
  f_X8_make_9 K R o FU x1 x2 x3 x4 0 q25
def f_X9_init (o : Nat)  (K : Sh) (n : Nat) (I : Im) (R : Rf) : Option (Sh × Nat × Im × Rf) :=
  Option.bind (some (u1 K n (21, 5))) fun K1 =>
  Option.bind (some (zr I n 0)) fun I2 =>
  Option.bind (ob K1 10 (some o)) fun a3 =>
  Option.bind (some (u2 R a3 5 (some n))) fun R5 =>
  Option.bind (some (u1 K1 (n + 1) (21, 5))) fun K6 =>
  Option.bind (some (zr I2 (n + 1) 0)) fun I7 =>
  Option.bind (ob K6 10 (some o)) fun a8 =>
  Option.bind (some (u2 R5 a8 6 (some (n + 1)))) fun R10 =>
  Option.bind (some (u1 K6 (n + 2) (21, 6))) fun K11 =>
  Option.bind (some (zr I7 (n + 2) 0)) fun I12 =>
  Option.bind (ob K11 10 (some o)) fun a13 =>
  Option.bind (some (u2 R10 a13 7 (some (n + 2)))) fun R15 =>
  Option.bind (some (u2 R15 a13 8 none)) fun R16 =>
  some (K11, (n + 3), I12, R16)
def f_X9_figure (K : Sh) (I : Im) (o : Nat)  (x1 : Int32) : Option (Int32) :=
  if x1 = 0 then
    some (I o 0)
  else
  if x1 = 1 then
    some (I o 2)
  else
  if x1 = 2 then
    some (I o 3)
  else
  some (I o 4)
def f_X9_drunkIn (K : Sh) (I : Im) (R : Rf) (o : Nat)  (x1 : Int32) (x2 : Int32) (x3 : Int32) : Option (Int32) :=
  Option.bind (f_X9_sumsOf x1 x3) fun q1 =>
  if (R o 8) = none then
    some 0
  else
    if (q1 + (irem x2 24)) < 0 then
      some 0
    else
      Option.bind (alen K (R o 8)) fun v3 =>
      if v3 ≤ ((q1 + (irem x2 24)) + 1) then
        some 0
      else
        Option.bind (ldI K I (R o 8) ((q1 + (irem x2 24)) + 1)) fun v4 =>
        Option.bind (ldI K I (R o 8) (q1 + (irem x2 24))) fun v5 =>
        some (v4 - v5)
def f_X9_becomeDug_38 (K : Sh) (o : Nat) (r7 : Option Nat → Int32 → Int32 → Int32 → Int32 → Int32 → Im → Rf → Option (Im × Rf)) (x1 : Option Nat) (x2 : Int32) (x3 : Int32) (x4 : Int32) (x5 : Int32) (x6 : Int32) (I : Im) (R : Rf) : Option (Im × Rf) :=
  Option.bind (ob K 10 x1) fun a1 =>
  Option.bind (ldI K I (R a1 5) x6) fun v3 =>
  Option.bind (ldI K I (R a1 6) x6) fun v4 =>
  Option.bind (f_X9_addWell K R o v3 v4 I) fun q5 =>
  r7 x1 x2 x3 x4 x5 (x6 + 1) q5 R
def f_X9_becomeDug_81 (K : Sh) (o : Nat)  : Nat → Option Nat → Int32 → Int32 → Int32 → Im → Rf → Option (Im × Rf)
  | 0, _, _, _, _, _, _ => none
  | k + 1, x1, x2, x3, x6, I, R =>
    Option.bind (ob K 10 x1) fun a7 =>
    if (I a7 0) < x6 then
      Option.bind (some (u2 I o 2 (I a7 2))) fun I9 =>
      Option.bind (some (u2 I9 o 3 (I9 a7 3))) fun I10 =>
      Option.bind (some (u2 I10 o 4 (I10 a7 4))) fun I11 =>
      Option.bind (some (u2 R o 8 (R a7 8))) fun R12 =>
      some (I11, R12)
    else
      if x6 = x2 then
        Option.bind (f_X9_addWay K R o x3 I) fun q16 =>
        Option.bind (ldI K q16 (R a7 7) x6) fun v18 =>
        Option.bind (f_X9_addWay K R o (v18 - x3) q16) fun q19 =>
        f_X9_becomeDug_81 K o k x1 x2 x3 (x6 + 1) q19 R
      else
        Option.bind (ldI K I (R a7 7) x6) fun v13 =>
        Option.bind (f_X9_addWay K R o v13 I) fun q14 =>
        f_X9_becomeDug_81 K o k x1 x2 x3 (x6 + 1) q14 R
def f_X9_becomeDug_62 (K : Sh) (o : Nat)  (x1 : Option Nat) (x2 : Int32) (x3 : Int32) (x4 : Int32) (x5 : Int32) (I : Im) (R : Rf) : Option (Im × Rf) :=
  Option.bind (ob K 10 x1) fun a23 =>
  if x2 = (I a23 0) then
    Option.bind (f_X9_addWell K R o x4 x5 I) fun q25 =>
    f_X9_becomeDug_81 K o FU x1 x2 x3 0 q25 R
  else
    f_X9_becomeDug_81 K o FU x1 x2 x3 0 I R
def f_X9_becomeDug_7 (K : Sh) (o : Nat)  : Nat → Option Nat → Int32 → Int32 → Int32 → Int32 → Int32 → Im → Rf → Option (Im × Rf)
  | 0, _, _, _, _, _, _, _, _ => none
  | k + 1, x1, x2, x3, x4, x5, x6, I, R =>
    Option.bind (ob K 10 x1) fun a28 =>
    if (I a28 0) ≤ x6 then
      f_X9_becomeDug_62 K o x1 x2 x3 x4 x5 I R
    else
      if 5 ≤ (I o 0) then
        f_X9_becomeDug_62 K o x1 x2 x3 x4 x5 I R
      else
        if x6 = x2 then
          Option.bind (f_X9_addWell K R o x4 x5 I) fun q30 =>
          f_X9_becomeDug_38 K o (f_X9_becomeDug_7 K o k) x1 x2 x3 x4 x5 x6 q30 R
        else
          f_X9_becomeDug_38 K o (f_X9_becomeDug_7 K o k) x1 x2 x3 x4 x5 x6 I R
def f_X9_becomeDug (K : Sh) (o : Nat)  (x1 : Option Nat) (x2 : Int32) (x3 : Int32) (x4 : Int32) (x5 : Int32) (I : Im) (R : Rf) : Option (Im × Rf) :=
  Option.bind (f_X9_clear K R o I) fun q35 =>
  f_X9_becomeDug_7 K o FU x1 x2 x3 x4 x5 0 q35 R
def f_X10_fill_2 (K : Sh) (R : Rf) (o : Nat)  : Nat → Option Nat → Int32 → Im → Option (Im)
  | 0, _, _, _ => none
  | k + 1, x1, x2, I =>
    if 5 ≤ x2 then
      some I
    else
      Option.bind (ob K 10 x1) fun a1 =>
      Option.bind (ldI K I (R a1 5) x2) fun v3 =>
      Option.bind (stI K I (R o 0) x2 v3) fun I4 =>
      Option.bind (ldI K I4 (R a1 6) x2) fun v5 =>
      Option.bind (stI K I4 (R o 1) x2 v5) fun I6 =>
      Option.bind (ldI K I6 (R a1 5) x2) fun v7 =>
      Option.bind (stI K I6 (R o 2) x2 v7) fun I8 =>
      Option.bind (stI K I8 (R o 3) x2 0) fun I9 =>
      f_X10_fill_2 K R o k x1 (x2 + 1) I9
def f_X10_fill (K : Sh) (R : Rf) (o : Nat)  (x1 : Option Nat) (I : Im) : Option (Im) :=
  f_X10_fill_2 K R o FU x1 0 I
def f_X10_dryUp (K : Sh) (R : Rf) (o : Nat)  (x1 : Int32) (I : Im) : Option (Im) :=
  Option.bind (stI K I (R o 0) x1 0) fun I1 =>
  Option.bind (stI K I1 (R o 1) x1 0) fun I2 =>
  Option.bind (stI K I2 (R o 2) x1 0) fun I3 =>
  some I3
def f_X11_init_155 (o : Nat)  : Nat → Int32 → Sh → Nat → Im → Jm → Rf → Option (Sh × Nat × Im × Jm × Rf)
  | 0, _, _, _, _, _, _ => none
  | k + 1, x1, K, n, I, J, R =>
    if 6 ≤ x1 then
      some (K, n, I, J, R)
    else
      Option.bind (ob K 12 (some o)) fun a1 =>
      Option.bind (some (u1 K n (8, 3))) fun K3 =>
      Option.bind (some (zr I n 0)) fun I4 =>
      Option.bind (some (zr R n none)) fun R5 =>
      Option.bind (f_X7_init n K3 (n + 1) I4 J R5) fun q6 =>
      Option.bind (stR q6.1 q6.2.2.2.2 26 8 (R a1 10) x1 (some n)) fun R8 =>
      f_X11_init_155 o k (x1 + 1) q6.1 q6.2.1 q6.2.2.1 q6.2.2.2.1 R8
def f_X11_init (o : Nat)  (K : Sh) (n : Nat) (I : Im) (J : Jm) (R : Rf) : Option (Sh × Nat × Im × Jm × Rf) :=
  Option.bind (some (u1 K n (5, 10))) fun K10 =>
  Option.bind (some (zr I n 0)) fun I11 =>
  Option.bind (some (zr R n none)) fun R12 =>
  Option.bind (f_X4_init n K10 (n + 1) I11 R12) fun q13 =>
  Option.bind (ob q13.1 12 (some o)) fun a15 =>
  Option.bind (some (u2 q13.2.2.2 a15 0 (some n))) fun R17 =>
  Option.bind (some (u2 R17 a15 2 none)) fun R18 =>
  Option.bind (some (u1 q13.1 q13.2.1 (25, 10))) fun K19 =>
  Option.bind (some (zr R18 q13.2.1 none)) fun R20 =>
  Option.bind (ob K19 12 (some o)) fun a21 =>
  Option.bind (some (u2 R20 a21 3 (some q13.2.1))) fun R23 =>
  Option.bind (some (u1 K19 (q13.2.1 + 1) (24, 6))) fun K24 =>
  Option.bind (some (zr R23 (q13.2.1 + 1) none)) fun R25 =>
  Option.bind (ob K24 12 (some o)) fun a26 =>
  Option.bind (some (u2 R25 a26 5 (some (q13.2.1 + 1)))) fun R28 =>
  Option.bind (some (u1 K24 (q13.2.1 + 2) (7, 7))) fun K29 =>
  Option.bind (some (zr q13.2.2.1 (q13.2.1 + 2) 0)) fun I30 =>
  Option.bind (some (zr R28 (q13.2.1 + 2) none)) fun R31 =>
  Option.bind (f_X6_init (q13.2.1 + 2) K29 (q13.2.1 + 3) I30 R31) fun q32 =>
  Option.bind (ob q32.1 12 (some o)) fun a34 =>
  Option.bind (some (u2 q32.2.2.2 a34 7 (some (q13.2.1 + 2)))) fun R36 =>
  Option.bind (some (u1 q32.1 q32.2.1 (7, 7))) fun K37 =>
  Option.bind (some (zr q32.2.2.1 q32.2.1 0)) fun I38 =>
  Option.bind (some (zr R36 q32.2.1 none)) fun R39 =>
  Option.bind (f_X6_init q32.2.1 K37 (q32.2.1 + 1) I38 R39) fun q40 =>
  Option.bind (ob q40.1 12 (some o)) fun a42 =>
  Option.bind (some (u2 q40.2.2.2 a42 8 (some q32.2.1))) fun R44 =>
  Option.bind (some (u1 q40.1 q40.2.1 (26, 6))) fun K45 =>
  Option.bind (some (zr R44 q40.2.1 none)) fun R46 =>
  Option.bind (ob K45 12 (some o)) fun a47 =>
  Option.bind (some (u2 R46 a47 10 (some q40.2.1))) fun R49 =>
  Option.bind (some (u1 K45 (q40.2.1 + 1) (1, 2))) fun K50 =>
  Option.bind (some (zr q40.2.2.1 (q40.2.1 + 1) 0)) fun I51 =>
  Option.bind (some (zr R49 (q40.2.1 + 1) none)) fun R52 =>
  Option.bind (f_X0_init (q40.2.1 + 1) K50 (q40.2.1 + 2) I51 R52) fun q53 =>
  Option.bind (ob q53.1 12 (some o)) fun a55 =>
  Option.bind (some (u2 q53.2.2.2 a55 11 (some (q40.2.1 + 1)))) fun R57 =>
  Option.bind (some (u1 q53.1 q53.2.1 (9, 8))) fun K58 =>
  Option.bind (some (zr q53.2.2.1 q53.2.1 0)) fun I59 =>
  Option.bind (some (zr R57 q53.2.1 none)) fun R60 =>
  Option.bind (f_X8_init q53.2.1 K58 (q53.2.1 + 1) I59 R60) fun q61 =>
  Option.bind (ob q61.1 12 (some o)) fun a63 =>
  Option.bind (some (u2 q61.2.2.2 a63 12 (some q53.2.1))) fun R65 =>
  Option.bind (some (u1 q61.1 q61.2.1 (4, 10))) fun K66 =>
  Option.bind (some (zr q61.2.2.1 q61.2.1 0)) fun I67 =>
  Option.bind (some (zr R65 q61.2.1 none)) fun R68 =>
  Option.bind (f_X3_init q61.2.1 K66 (q61.2.1 + 1) I67 R68) fun q69 =>
  Option.bind (ob q69.1 12 (some o)) fun a71 =>
  Option.bind (some (u2 q69.2.2.2 a71 13 (some q61.2.1))) fun R73 =>
  Option.bind (some (u1 q69.1 q69.2.1 (3, 6))) fun K74 =>
  Option.bind (some (zr q69.2.2.1 q69.2.1 0)) fun I75 =>
  Option.bind (some (zr R73 q69.2.1 none)) fun R76 =>
  Option.bind (f_X2_init q69.2.1 K74 (q69.2.1 + 1) I75 R76) fun q77 =>
  Option.bind (ob q77.1 12 (some o)) fun a79 =>
  Option.bind (some (u2 q77.2.2.2 a79 14 (some q69.2.1))) fun R81 =>
  Option.bind (some (u1 q77.1 q77.2.1 (11, 4))) fun K82 =>
  Option.bind (some (zr q77.2.2.1 q77.2.1 0)) fun I83 =>
  Option.bind (some (zr R81 q77.2.1 none)) fun R84 =>
  Option.bind (f_X10_init q77.2.1 K82 (q77.2.1 + 1) I83 R84) fun q85 =>
  Option.bind (ob q85.1 12 (some o)) fun a87 =>
  Option.bind (some (u2 q85.2.2.2 a87 15 (some q77.2.1))) fun R89 =>
  Option.bind (some (u1 q85.1 q85.2.1 (10, 9))) fun K90 =>
  Option.bind (some (zr q85.2.2.1 q85.2.1 0)) fun I91 =>
  Option.bind (some (zr R89 q85.2.1 none)) fun R92 =>
  Option.bind (f_X9_init q85.2.1 K90 (q85.2.1 + 1) I91 R92) fun q93 =>
  Option.bind (ob q93.1 12 (some o)) fun a95 =>
  Option.bind (some (u2 q93.2.2.2 a95 16 (some q85.2.1))) fun R97 =>
  Option.bind (some (u1 q93.1 q93.2.1 (2, 3))) fun K98 =>
  Option.bind (some (zr q93.2.2.1 q93.2.1 0)) fun I99 =>
  Option.bind (some (zr R97 q93.2.1 none)) fun R100 =>
  Option.bind (ob K98 2 (some q93.2.1)) fun a101 =>
  Option.bind (f_X1_init K98 a101 R100) fun q103 =>
  Option.bind (ob K98 12 (some o)) fun a105 =>
  Option.bind (some (u2 q103 a105 17 (some q93.2.1))) fun R107 =>
  Option.bind (some (u1 K98 (q93.2.1 + 1) (21, 5))) fun K108 =>
  Option.bind (some (zr I99 (q93.2.1 + 1) 0)) fun I109 =>
  Option.bind (ob K108 12 (some o)) fun a110 =>
  Option.bind (some (u2 R107 a110 18 (some (q93.2.1 + 1)))) fun R112 =>
  f_X11_init_155 o 7 0 K108 (q93.2.1 + 2) I109 J R112
def f_X11_within   (x0 : Int32) (x1 : Int32) (x2 : Int32) : Option (Int32) :=
  if x0 < x1 then
    some 0
  else
    if x2 < x0 then
      some 0
    else
      some 1
def f_X11_feed_33 (K : Sh) (R : Rf) (o : Nat)  : Nat → Int32 → Int32 → Im → Option (Int32 × Im)
  | 0, _, _, _ => none
  | k + 1, x1, x3, I =>
    if x3 < 0 then
      Option.bind (ob K 5 (R o 0)) fun a1 =>
      some ((I a1 1), I)
    else
      Option.bind (ob K 5 (R o 0)) fun a3 =>
      Option.bind (f_X4_put K R a3 ((ishr x1 (8 * x3)).toInt8.toInt32) I) fun q5 =>
      f_X11_feed_33 K R o k x1 (x3 - 1) q5
def f_X11_feed (K : Sh) (R : Rf) (o : Nat)  (x1 : Int32) (x2 : Int32) (I : Im) : Option (Int32 × Im) :=
  Option.bind (f_X11_within x2 0 4) fun q8 =>
  if q8 = 0 then
    some ((-2), I)
  else
    Option.bind (ob K 5 (R o 0)) fun a10 =>
    if ((I a10 1) + x2) ≤ 100 then
      f_X11_feed_33 K R o FU x1 (x2 - 1) I
    else
      some ((-4), I)
def f_X11_waste_29 (Z : Nat → Nat) (o : Nat)  (K : Sh) (n : Nat) (I : Im) (R : Rf) : Option (Int32 × Sh × Nat × Im × Rf) :=
  Option.bind (ob K 12 (some o)) fun a1 =>
  Option.bind (ob K 5 (R a1 0)) fun a3 =>
  Option.bind (f_X4_readInto Z a3 (R a1 2) K n I R) fun q5 =>
  Option.bind (ob q5.2.1 12 (some o)) fun a7 =>
  Option.bind (ob q5.2.1 5 (q5.2.2.2.2 a7 0)) fun a9 =>
  Option.bind (some (u2 q5.2.2.2.1 a9 1 0)) fun I11 =>
  if q5.1 < 0 then
    Option.bind (ob q5.2.1 7 (q5.2.2.2.2 a7 7)) fun a12 =>
    Option.bind (some (u2 q5.2.2.2.2 a12 0 (q5.2.2.2.2 a7 2))) fun R14 =>
    Option.bind (ob q5.2.1 7 (R14 a7 7)) fun a15 =>
    Option.bind (ob q5.2.1 11 (R14 a15 1)) fun a17 =>
    Option.bind (f_X10_fill q5.2.1 R14 a17 (R14 a7 2) I11) fun q19 =>
    Option.bind (some (u2 R14 a7 2 none)) fun R21 =>
    Option.bind (some (u2 q19 a7 1 ((q19 a7 1) + 1))) fun I22 =>
    some (((I22 a7 1) - 1), q5.2.1, q5.2.2.1, I22, R21)
  else
    some (((-10) - q5.1), q5.2.1, q5.2.2.1, I11, q5.2.2.2.2)
def f_X11_waste (Z : Nat → Nat) (o : Nat)  (K : Sh) (n : Nat) (I : Im) (R : Rf) : Option (Int32 × Sh × Nat × Im × Rf) :=
  Option.bind (ob K 12 (some o)) fun a24 =>
  if (I a24 1) < 5 then
    if (R a24 2) = none then
      Option.bind (some (u1 K n (10, 9))) fun K26 =>
      Option.bind (some (zr I n 0)) fun I27 =>
      Option.bind (some (zr R n none)) fun R28 =>
      Option.bind (f_X9_init n K26 (n + 1) I27 R28) fun q29 =>
      Option.bind (ob q29.1 12 (some o)) fun a31 =>
      Option.bind (some (u2 q29.2.2.2 a31 2 (some n))) fun R33 =>
      f_X11_waste_29 Z o q29.1 q29.2.1 q29.2.2.1 R33
    else
      f_X11_waste_29 Z o K n I R
  else
    some ((-4), K, n, I, R)
def f_X11_of_44 (K : Sh) (I : Im) (R : Rf) (o : Nat)  (x1 : Int32) : Option (Int32) :=
  Option.bind (ob K 7 (R o 7)) fun a1 =>
  if (R a1 0) = none then
    some (-3)
  else
    if (x1 / 10) = 0 then
      Option.bind (ob K 10 (R a1 0)) fun a3 =>
      Option.bind (f_X9_figure K I a3 (irem x1 10)) fun q5 =>
      some q5
    else
    if (x1 / 10) = 1 then
      Option.bind (ob K 10 (R a1 0)) fun a8 =>
      if (I a8 0) ≤ (irem x1 10) then
        some (-1)
      else
        Option.bind (ldI K I (R a8 5) (irem x1 10)) fun v10 =>
        some v10
    else
    if (x1 / 10) = 2 then
      Option.bind (ob K 10 (R a1 0)) fun a13 =>
      if (I a13 0) ≤ (irem x1 10) then
        some (-1)
      else
        Option.bind (ldI K I (R a13 6) (irem x1 10)) fun v15 =>
        some v15
    else
    Option.bind (ob K 10 (R a1 0)) fun a18 =>
    if (I a18 0) < (irem x1 10) then
      some (-1)
    else
      Option.bind (ldI K I (R a18 7) (irem x1 10)) fun v20 =>
      some v20
def f_X11_of (K : Sh) (I : Im) (R : Rf) (o : Nat)  (x1 : Int32) : Option (Int32) :=
  Option.bind (f_X11_within x1 0 3) fun q23 =>
  if q23 = 0 then
    Option.bind (f_X11_within x1 10 14) fun q25 =>
    if q25 = 0 then
      Option.bind (f_X11_within x1 20 24) fun q27 =>
      if q27 = 0 then
        Option.bind (f_X11_within x1 30 35) fun q29 =>
        if q29 = 0 then
          some (-1)
        else
          f_X11_of_44 K I R o x1
      else
        f_X11_of_44 K I R o x1
    else
      f_X11_of_44 K I R o x1
  else
    f_X11_of_44 K I R o x1
def f_X11_holds (K : Sh) (I : Im) (R : Rf) (o : Nat)  (x1 : Int32) (x2 : Int32) : Option (Int32) :=
  Option.bind (f_X11_within x1 0 4) fun q1 =>
  if q1 = 0 then
    some (-1)
  else
    Option.bind (f_X11_within x2 0 999) fun q3 =>
    if q3 = 0 then
      some (-2)
    else
      Option.bind (ob K 7 (R o 7)) fun a5 =>
      if (R a5 0) = none then
        some (-3)
      else
        Option.bind (ob K 10 (R a5 0)) fun a7 =>
        if (I a7 0) ≤ x1 then
          some (-1)
        else
          Option.bind (ob K 11 (R a5 1)) fun a9 =>
          Option.bind (f_X10_heldAt K I R a9 x1 x2) fun q11 =>
          some q11
def f_X11_drinks (K : Sh) (I : Im) (R : Rf) (o : Nat)  (x1 : Int32) (x2 : Int32) (x3 : Int32) : Option (Int32) :=
  Option.bind (f_X11_within x1 0 5) fun q1 =>
  if q1 = 0 then
    some (-1)
  else
    Option.bind (f_X11_within x2 0 999) fun q3 =>
    if q3 = 0 then
      some (-2)
    else
      Option.bind (f_X11_within x3 1 9) fun q5 =>
      if q5 = 0 then
        some (-2)
      else
        Option.bind (ob K 7 (R o 7)) fun a7 =>
        if (R a7 0) = none then
          some (-3)
        else
          Option.bind (ob K 10 (R a7 0)) fun a9 =>
          if (I a9 0) < x1 then
            some (-1)
          else
            Option.bind (f_X9_drunkIn K I R a9 x1 x2 x3) fun q11 =>
            some q11
def f_X11_odds (K : Sh) (R : Rf) (o : Nat)  (x1 : Int32) (x2 : Int32) (I : Im) : Option (Int32 × Im) :=
  Option.bind (f_X11_within x1 0 4) fun q1 =>
  if q1 = 0 then
    some ((-1), I)
  else
    Option.bind (f_X11_within x2 0 10) fun q3 =>
    if q3 = 0 then
      some ((-2), I)
    else
      Option.bind (ob K 7 (R o 7)) fun a5 =>
      Option.bind (ldI K I (R a5 2) x1) fun v7 =>
      Option.bind (stI K I (R a5 2) x1 x2) fun I8 =>
      some (v7, I8)
def f_X11_ever_34 (K : Sh) (I : Im) (R : Rf) (o : Nat)  : Nat → Int32 → Option Nat → Int32 → Int32 → Option (Int32)
  | 0, _, _, _, _ => none
  | k + 1, x1, x2, x3, x4 =>
    Option.bind (ob K 10 x2) fun a1 =>
    if (I a1 0) ≤ x4 then
      some x3
    else
      Option.bind (ldI K I (R a1 5) x4) fun v3 =>
      Option.bind (ldI K I (R a1 5) x4) fun v4 =>
      Option.bind (ldI K I (R a1 6) x4) fun v5 =>
      Option.bind (some (x3 + (v3 + (x1 * (imin v4 v5))))) fun v6 =>
      f_X11_ever_34 K I R o k x1 x2 v6 (x4 + 1)
def f_X11_ever (K : Sh) (I : Im) (R : Rf) (o : Nat)  (x1 : Int32) : Option (Int32) :=
  Option.bind (f_X11_within x1 0 999) fun q8 =>
  if q8 = 0 then
    some (-2)
  else
    Option.bind (ob K 7 (R o 7)) fun a10 =>
    if (R a10 0) = none then
      some (-3)
    else
      f_X11_ever_34 K I R o FU x1 (R a10 0) 0 0
def f_X11_rule (o : Nat)  (x1 : Int32) (x2 : Int32) (K : Sh) (n : Nat) (I : Im) (R : Rf) : Option (Int32 × Sh × Nat × Im × Rf) :=
  Option.bind (f_X11_within x1 0 6) fun q1 =>
  if q1 = 0 then
    some ((-1), K, n, I, R)
  else
    Option.bind (f_X11_within x2 0 6) fun q3 =>
    if q3 = 0 then
      some ((-2), K, n, I, R)
    else
      Option.bind (ob K 12 (some o)) fun a5 =>
      if (I a5 4) < 10 then
        Option.bind (some (u1 K n (6, 5))) fun K7 =>
        Option.bind (some (zr I n 0)) fun I8 =>
        Option.bind (some (zr R n none)) fun R9 =>
        Option.bind (ob K7 12 (some o)) fun a10 =>
        Option.bind (f_X5_init n x1 (I8 a10 4) x2 K7 (n + 1) I8 R9) fun q12 =>
        Option.bind (stR q12.1 q12.2.2.2 25 6 (R a5 3) (I a5 4) (some n)) fun R14 =>
        Option.bind (ob q12.1 12 (some o)) fun a15 =>
        Option.bind (some (u2 q12.2.2.1 a15 4 ((q12.2.2.1 a15 4) + 1))) fun I17 =>
        some (((I17 a15 4) - 1), q12.1, q12.2.1, I17, R14)
      else
        some ((-4), K, n, I, R)
def f_X11_ruleAt (K : Sh) (I : Im) (R : Rf) (o : Nat)  (x1 : Int32) : Option ((Option Nat)) :=
  if x1 < 0 then
    some none
  else
    if (I o 4) ≤ x1 then
      some none
    else
      Option.bind (ldR K R 25 (R o 3) x1) fun v1 =>
      some v1
def f_X11_row (K : Sh) (R : Rf) (o : Nat)  (x1 : Int32) (x2 : Int32) (I : Im) : Option (Int32 × Im) :=
  Option.bind (f_X11_ruleAt K I R o x1) fun q1 =>
  if q1 = none then
    some ((-1), I)
  else
    Option.bind (f_X11_within x2 0 6) fun q3 =>
    if q3 = 0 then
      some ((-2), I)
    else
      Option.bind (ob K 6 q1) fun a5 =>
      if (I a5 0) = 3 then
        if (I a5 4) < 5 then
          Option.bind (stI K I (R a5 3) (I a5 4) x2) fun I7 =>
          Option.bind (some (u2 I7 a5 4 ((I7 a5 4) + 1))) fun I8 =>
          some ((I8 a5 4), I8)
        else
          some ((-4), I)
      else
        some ((-3), I)
def f_X11_caravan (o : Nat)  (x1 : Int32) (x2 : Int32) (x3 : Int32) (K : Sh) (n : Nat) (I : Im) (R : Rf) : Option (Int32 × Sh × Nat × Im × Rf) :=
  Option.bind (ob K 12 (some o)) fun a1 =>
  Option.bind (f_X11_ruleAt K I R a1 x3) fun q3 =>
  if q3 = none then
    some ((-1), K, n, I, R)
  else
    Option.bind (f_X11_within x1 1 9) fun q5 =>
    if q5 = 0 then
      some ((-2), K, n, I, R)
    else
      Option.bind (f_X11_within x2 0 99) fun q7 =>
      if q7 = 0 then
        some ((-2), K, n, I, R)
      else
        if (I a1 6) < 6 then
          Option.bind (some (u1 K n (2, 3))) fun K9 =>
          Option.bind (some (zr I n 0)) fun I10 =>
          Option.bind (some (zr R n none)) fun R11 =>
          Option.bind (ob K9 2 (some n)) fun a12 =>
          Option.bind (f_X1_init K9 a12 R11) fun q14 =>
          Option.bind (f_X1_become K9 a12 x1 x2 q3 I10 q14) fun q16 =>
          Option.bind (ob K9 12 (some o)) fun a18 =>
          Option.bind (stR K9 q16.2 24 2 (q16.2 a18 5) (q16.1 a18 6) (some n)) fun R20 =>
          Option.bind (some (u2 q16.1 a18 6 ((q16.1 a18 6) + 1))) fun I21 =>
          some (((I21 a18 6) - 1), K9, (n + 1), I21, R20)
        else
          some ((-4), K, n, I, R)
def f_X11_caravanAt (K : Sh) (I : Im) (R : Rf) (o : Nat)  (x1 : Int32) : Option ((Option Nat)) :=
  if x1 < 0 then
    some none
  else
    if (I o 6) ≤ x1 then
      some none
    else
      Option.bind (ldR K R 24 (R o 5) x1) fun v1 =>
      some v1
def f_X11_isAskedOfTrip (K : Sh)  (x0 : Int32) : Option (Int32) :=
  Option.bind (f_X11_within x0 0 2) fun q1 =>
  if q1 = 0 then
    Option.bind (f_X11_within x0 10 14) fun q3 =>
    if q3 = 0 then
      Option.bind (f_X11_within x0 20 24) fun q5 =>
      if q5 = 0 then
        some 0
      else
        some 1
    else
      some 1
  else
    some 1
def f_X11_send_64 (K : Sh) (o : Nat)  (x1 : Option Nat) (x2 : Option Nat) (x3 : Option Nat) (x4 : Option Nat) (I : Im) (R : Rf) : Option (Im × Rf) :=
  Option.bind (ob K 9 (R o 12)) fun a1 =>
  Option.bind (f_X8_make K R a1 x1 x2 x3 x4 I) fun q3 =>
  some (q3, R)
def f_X11_send (K : Sh) (o : Nat)  (x1 : Option Nat) (x2 : Option Nat) (x3 : Option Nat) (I : Im) (R : Rf) : Option (Im × Rf) :=
  Option.bind (ob K 2 x3) fun a5 =>
  Option.bind (ob K 6 (R a5 2)) fun a7 =>
  if (I a7 0) = 3 then
    f_X11_send_64 K o x1 x2 x3 (R a7 3) I R
  else
    if (I a7 0) = 5 then
      Option.bind (ob K 4 (R o 13)) fun a9 =>
      Option.bind (f_X3_earliest K a9 x1 x2 x3 I R) fun q11 =>
      Option.bind (ob K 4 (q11.2.2 o 13)) fun a13 =>
      Option.bind (f_X3_plan K q11.2.2 a13 q11.2.1) fun q15 =>
      f_X11_send_64 K o x1 x2 x3 (q11.2.2 a13 0) q15 q11.2.2
    else
      f_X11_send_64 K o x1 x2 x3 none I R
def f_X11_worthOf (K : Sh) (I : Im) (R : Rf) (o : Nat)  (x1 : Int32) : Option (Int32) :=
  Option.bind (ob K 9 (R o 12)) fun a1 =>
  if (I a1 0) = (-5) then
    some 0
  else
    Option.bind (ob K 7 (R o 7)) fun a3 =>
    Option.bind (ob K 10 (R a3 0)) fun a5 =>
    some ((I a5 3) * x1)
def f_X11_tellTrip (K : Sh) (I : Im) (R : Rf) (o : Nat)  (x1 : Int32) (x2 : Int32) : Option (Int32) :=
  if x1 = 0 then
    Option.bind (ob K 9 (R o 12)) fun a1 =>
    some (I a1 0)
  else
  if x1 = 1 then
    Option.bind (ob K 9 (R o 12)) fun a4 =>
    some (I a4 1)
  else
  if x1 = 2 then
    Option.bind (f_X11_worthOf K I R o x2) fun q7 =>
    some q7
  else
  Option.bind (ob K 7 (R o 7)) fun a10 =>
  Option.bind (ob K 10 (R a10 0)) fun a12 =>
  if (irem x1 10) < (I a12 0) then
    if 20 ≤ x1 then
      Option.bind (ob K 9 (R o 12)) fun a14 =>
      Option.bind (ldI K I (R a14 3) (irem x1 10)) fun v16 =>
      some v16
    else
      Option.bind (ob K 9 (R o 12)) fun a17 =>
      Option.bind (ldI K I (R a17 2) (irem x1 10)) fun v19 =>
      some v19
  else
    some (-1)
def f_X11_would (K : Sh) (o : Nat)  (x1 : Int32) (x2 : Int32) (I : Im) (R : Rf) : Option (Int32 × Im × Rf) :=
  Option.bind (f_X11_caravanAt K I R o x1) fun q1 =>
  if q1 = none then
    some ((-1), I, R)
  else
    Option.bind (f_X11_isAskedOfTrip K x2) fun q3 =>
    if q3 = 0 then
      some ((-1), I, R)
    else
      Option.bind (ob K 7 (R o 7)) fun a5 =>
      if (R a5 0) = none then
        some ((-3), I, R)
      else
        Option.bind (ob K 11 (R o 15)) fun a7 =>
        Option.bind (f_X10_become K R a7 (R a5 1) I) fun q9 =>
        Option.bind (f_X11_send K o (R a5 0) (R o 15) q1 q9 R) fun q11 =>
        Option.bind (ob K 2 q1) fun a13 =>
        Option.bind (f_X11_tellTrip K q11.1 q11.2 o x2 (q11.1 a13 0)) fun q15 =>
        some (q15, q11.1, q11.2)
def f_X11_goes (K : Sh) (o : Nat)  (x1 : Int32) (I : Im) (R : Rf) : Option (Int32 × Im × Rf) :=
  Option.bind (f_X11_caravanAt K I R o x1) fun q1 =>
  if q1 = none then
    some ((-1), I, R)
  else
    Option.bind (ob K 7 (R o 7)) fun a3 =>
    if (R a3 0) = none then
      some ((-3), I, R)
    else
      Option.bind (f_X11_send K o (R a3 0) (R a3 1) q1 I R) fun q5 =>
      Option.bind (ob K 9 (q5.2 o 12)) fun a7 =>
      some ((q5.1 a7 0), q5.1, q5.2)
def f_X11_hand (K : Sh) (R : Rf) (o : Nat)  (x1 : Int32) (I : Im) : Option (Int32 × Im) :=
  if x1 = (-1) then
    Option.bind (ob K 7 (R o 7)) fun a9 =>
    Option.bind (f_X6_emptyHand K R a9 I) fun q11 =>
    some (0, q11)
  else
    Option.bind (f_X11_within x1 0 6) fun q1 =>
    if q1 = 0 then
      some ((-2), I)
    else
      Option.bind (ob K 7 (R o 7)) fun a3 =>
      if (I a3 6) < 5 then
        Option.bind (stI K I (R a3 5) (I a3 6) x1) fun I5 =>
        Option.bind (some (u2 I5 a3 6 ((I5 a3 6) + 1))) fun I6 =>
        some ((I6 a3 6), I6)
      else
        some ((-4), I)
def f_X11_gone (K : Sh) (R : Rf) (o : Nat)  (x1 : Int32) (x2 : Int32) (I : Im) : Option (Int32 × Im) :=
  Option.bind (f_X11_caravanAt K I R o x1) fun q1 =>
  if q1 = none then
    some ((-1), I)
  else
    Option.bind (f_X11_isAskedOfTrip K x2) fun q3 =>
    if q3 = 0 then
      some ((-1), I)
    else
      Option.bind (ob K 7 (R o 7)) fun a5 =>
      if (R a5 0) = none then
        some ((-3), I)
      else
        Option.bind (ob K 11 (R o 15)) fun a7 =>
        Option.bind (f_X10_become K R a7 (R a5 1) I) fun q9 =>
        Option.bind (ob K 9 (R o 12)) fun a11 =>
        Option.bind (f_X8_make K R a11 (R a5 0) (R o 15) q1 (R a5 5) q9) fun q13 =>
        Option.bind (ob K 2 q1) fun a15 =>
        Option.bind (f_X11_tellTrip K q13 R o x2 (q13 a15 0)) fun q17 =>
        some (q17, q13)
def f_X11_size_134 (K : Sh) (o : Nat) (r61 : Int32 → Int32 → Option Nat → Int32 → Int32 → Int32 → Int32 → Im → Rf → Option (Int32 × Im × Rf)) (x1 : Int32) (x3 : Int32) (x4 : Option Nat) (x5 : Int32) (x6 : Int32) (x7 : Int32) (x8 : Int32) (I : Im) (R : Rf) : Option (Int32 × Im × Rf) :=
  Option.bind (ob K 9 (R o 12)) fun a1 =>
  if (I a1 0) = (-5) then
    r61 x1 x3 x4 x5 x6 x7 (x8 + 1) I R
  else
    Option.bind (f_X11_worthOf K I R o x8) fun q3 =>
    if q3 ≤ x5 then
      r61 x1 x3 x4 x5 x6 x7 (x8 + 1) I R
    else
      Option.bind (f_X11_worthOf K I R o x8) fun q5 =>
      r61 x1 x3 x4 q5 x8 x7 (x8 + 1) I R
def f_X11_size_61 (K : Sh) (o : Nat)  : Nat → Int32 → Int32 → Option Nat → Int32 → Int32 → Int32 → Int32 → Im → Rf → Option (Int32 × Im × Rf)
  | 0, _, _, _, _, _, _, _, _, _ => none
  | k + 1, x1, x3, x4, x5, x6, x7, x8, I, R =>
    if 9 < x8 then
      if x3 = 0 then
        some (x6, I, R)
      else
        some (x7, I, R)
    else
      Option.bind (ob K 2 (R o 17)) fun a10 =>
      Option.bind (f_X1_become K a10 x8 x1 x4 I R) fun q12 =>
      Option.bind (ob K 7 (q12.2 o 7)) fun a14 =>
      Option.bind (ob K 11 (q12.2 o 15)) fun a16 =>
      Option.bind (f_X10_become K q12.2 a16 (q12.2 a14 1) q12.1) fun q18 =>
      Option.bind (f_X11_send K o (q12.2 a14 0) (q12.2 o 15) (q12.2 o 17) q18 q12.2) fun q20 =>
      Option.bind (ob K 9 (q20.2 o 12)) fun a22 =>
      if (q20.1 a22 0) = (-5) then
        if x7 = 0 then
          f_X11_size_134 K o (f_X11_size_61 K o k) x1 x3 x4 x5 x6 x8 x8 q20.1 q20.2
        else
          f_X11_size_134 K o (f_X11_size_61 K o k) x1 x3 x4 x5 x6 x7 x8 q20.1 q20.2
      else
        f_X11_size_134 K o (f_X11_size_61 K o k) x1 x3 x4 x5 x6 x7 x8 q20.1 q20.2
def f_X11_size (K : Sh) (o : Nat)  (x1 : Int32) (x2 : Int32) (x3 : Int32) (I : Im) (R : Rf) : Option (Int32 × Im × Rf) :=
  Option.bind (f_X11_ruleAt K I R o x2) fun q27 =>
  if q27 = none then
    some ((-1), I, R)
  else
    Option.bind (f_X11_within x3 0 1) fun q29 =>
    if q29 = 0 then
      some ((-1), I, R)
    else
      Option.bind (f_X11_within x1 0 99) fun q31 =>
      if q31 = 0 then
        some ((-2), I, R)
      else
        Option.bind (ob K 7 (R o 7)) fun a33 =>
        if (R a33 0) = none then
          some ((-3), I, R)
        else
          f_X11_size_61 K o FU x1 x3 q27 (-1) 0 0 1 I R
def f_X11_several (K : Sh) (R : Rf) (o : Nat)  (x1 : Int32) (I : Im) : Option (Int32 × Im) :=
  if x1 = (-1) then
    Option.bind (ob K 7 (R o 7)) fun a9 =>
    Option.bind (some (u2 I a9 4 0)) fun I11 =>
    some (0, I11)
  else
    Option.bind (f_X11_caravanAt K I R o x1) fun q1 =>
    if q1 = none then
      some ((-1), I)
    else
      Option.bind (ob K 7 (R o 7)) fun a3 =>
      if (I a3 4) < 3 then
        Option.bind (stI K I (R a3 3) (I a3 4) x1) fun I5 =>
        Option.bind (some (u2 I5 a3 4 ((I5 a3 4) + 1))) fun I6 =>
        some ((I6 a3 4), I6)
      else
        some ((-4), I)
def f_X11_sendSeveral_23 (Z : Nat → Nat) (K : Sh) (o : Nat)  : Nat → Int32 → Int32 → Im → Rf → Option (Im × Rf)
  | 0, _, _, _, _ => none
  | k + 1, x1, x2, I, R =>
    Option.bind (ob K 7 (R o 7)) fun a1 =>
    if (I a1 4) ≤ x2 then
      some (I, R)
    else
      Option.bind (ldI K I (some (Z 1)) ((x1 * 3) + x2)) fun v3 =>
      Option.bind (ldI K I (R a1 3) v3) fun v4 =>
      Option.bind (f_X11_caravanAt K I R o v4) fun q5 =>
      if q5 = none then
        f_X11_sendSeveral_23 Z K o k x1 (x2 + 1) I R
      else
        Option.bind (f_X11_send K o (R a1 0) (R o 15) q5 I R) fun q7 =>
        Option.bind (ob K 9 (q7.2 o 12)) fun a9 =>
        Option.bind (ob K 2 q5) fun a11 =>
        Option.bind (f_X11_worthOf K q7.1 q7.2 o (q7.1 a11 0)) fun q13 =>
        Option.bind (ob K 3 (q7.2 o 14)) fun a15 =>
        Option.bind (f_X2_note K q7.2 a15 v3 (q7.1 a9 0) q13 q7.1) fun q17 =>
        f_X11_sendSeveral_23 Z K o k x1 (x2 + 1) q17 q7.2
def f_X11_sendSeveral (Z : Nat → Nat) (K : Sh) (o : Nat)  (x1 : Int32) (I : Im) (R : Rf) : Option (Im × Rf) :=
  Option.bind (ob K 7 (R o 7)) fun a21 =>
  Option.bind (ob K 11 (R o 15)) fun a23 =>
  Option.bind (f_X10_become K R a23 (R a21 1) I) fun q25 =>
  Option.bind (ob K 3 (R o 14)) fun a27 =>
  Option.bind (f_X2_begin K R a27 q25) fun q29 =>
  f_X11_sendSeveral_23 Z K o FU x1 0 q29 R
def f_X11_isOrderOf_2 (Z : Nat → Nat) (K : Sh) (I : Im)  : Nat → Int32 → Int32 → Option (Int32)
  | 0, _, _ => none
  | k + 1, x0, x2 =>
    if 3 ≤ x2 then
      some 1
    else
      Option.bind (ldI K I (some (Z 1)) ((x0 * 3) + x2)) fun v1 =>
      if v1 = x2 then
        f_X11_isOrderOf_2 Z K I k x0 (x2 + 1)
      else
        some 0
def f_X11_isOrderOf (Z : Nat → Nat) (K : Sh) (I : Im)  (x0 : Int32) (x1 : Int32) : Option (Int32) :=
  f_X11_isOrderOf_2 Z K I FU x0 x1
def f_X11_all_76 (Z : Nat → Nat) (K : Sh) (o : Nat)  : Nat → Int32 → Int32 → Im → Rf → Option (Int32 × Im × Rf)
  | 0, _, _, _, _ => none
  | k + 1, x1, x2, I, R =>
    Option.bind (alen K (some (Z 1))) fun v1 =>
    if v1 ≤ (x2 * 3) then
      if x1 = 5 then
        Option.bind (ob K 3 (R o 14)) fun a8 =>
        some ((I a8 4), I, R)
      else
        Option.bind (ob K 7 (R o 7)) fun a2 =>
        Option.bind (ob K 3 (R o 14)) fun a4 =>
        Option.bind (f_X2_placeAt Z K I a4 (x1 - 2) (I a2 4)) fun q6 =>
        some (q6, I, R)
    else
      Option.bind (ob K 7 (R o 7)) fun a11 =>
      Option.bind (f_X11_isOrderOf Z K I x2 (I a11 4)) fun q13 =>
      if q13 = 0 then
        f_X11_all_76 Z K o k x1 (x2 + 1) I R
      else
        Option.bind (f_X11_sendSeveral Z K o x2 I R) fun q15 =>
        Option.bind (ob K 3 (q15.2 o 14)) fun a17 =>
        Option.bind (f_X2_compare K a17 x2 q15.1) fun q19 =>
        f_X11_all_76 Z K o k x1 (x2 + 1) q19 q15.2
def f_X11_all_53 (Z : Nat → Nat) (K : Sh) (o : Nat)  (x1 : Int32) (I : Im) (R : Rf) : Option (Int32 × Im × Rf) :=
  Option.bind (f_X11_sendSeveral Z K o 0 I R) fun q23 =>
  Option.bind (ob K 3 (q23.2 o 14)) fun a25 =>
  Option.bind (f_X2_tell K q23.1 q23.2 a25 x1) fun q27 =>
  some (q27, q23.1, q23.2)
def f_X11_all_30 (Z : Nat → Nat) (K : Sh) (o : Nat)  (x1 : Int32) (I : Im) (R : Rf) : Option (Int32 × Im × Rf) :=
  Option.bind (ob K 7 (R o 7)) fun a29 =>
  if (R a29 0) = none then
    some ((-3), I, R)
  else
    if x1 < 2 then
      f_X11_all_53 Z K o x1 I R
    else
      if x1 ≤ 5 then
        Option.bind (ob K 3 (R o 14)) fun a31 =>
        Option.bind (f_X2_forgetOrder K a31 I) fun q33 =>
        f_X11_all_76 Z K o FU x1 0 q33 R
      else
        f_X11_all_53 Z K o x1 I R
def f_X11_all (Z : Nat → Nat) (K : Sh) (o : Nat)  (x1 : Int32) (I : Im) (R : Rf) : Option (Int32 × Im × Rf) :=
  Option.bind (f_X11_within x1 0 5) fun q38 =>
  if q38 = 0 then
    Option.bind (ob K 7 (R o 7)) fun a40 =>
    Option.bind (f_X11_within x1 10 (9 + (I a40 4))) fun q42 =>
    if q42 = 0 then
      some ((-1), I, R)
    else
      f_X11_all_30 Z K o x1 I R
  else
    f_X11_all_30 Z K o x1 I R
def f_X11_weightOf_64 (K : Sh) (I : Im) (R : Rf) (o : Nat) (r4 : Int32 → Int32 → Int32 → Option (Int32)) (x1 : Int32) (x3 : Int32) (s0 : Int32) (s1 : Int32) : Option (Int32) :=
  r4 x1 (s0 * s1) (x3 + 1)
def f_X11_weightOf_32 (K : Sh) (I : Im) (R : Rf) (o : Nat) (r4 : Int32 → Int32 → Int32 → Option (Int32)) (x1 : Int32) (x2 : Int32) (x3 : Int32) (s0 : Int32) : Option (Int32) :=
  if s0 = 0 then
    Option.bind (ob K 7 (R o 7)) fun a1 =>
    Option.bind (ldI K I (R a1 2) x3) fun v3 =>
    f_X11_weightOf_64 K I R o r4 x1 x3 x2 (10 - v3)
  else
    Option.bind (ob K 7 (R o 7)) fun a4 =>
    Option.bind (ldI K I (R a4 2) x3) fun v6 =>
    f_X11_weightOf_64 K I R o r4 x1 x3 x2 v6
def f_X11_weightOf_4 (K : Sh) (I : Im) (R : Rf) (o : Nat)  : Nat → Int32 → Int32 → Int32 → Option (Int32)
  | 0, _, _, _ => none
  | k + 1, x1, x2, x3 =>
    Option.bind (ob K 7 (R o 7)) fun a8 =>
    Option.bind (ob K 10 (R a8 0)) fun a10 =>
    if (I a10 0) ≤ x3 then
      some x2
    else
      if ((ishr x1 x3) &&& 1) = 1 then
        f_X11_weightOf_32 K I R o (f_X11_weightOf_4 K I R o k) x1 x2 x3 1
      else
        f_X11_weightOf_32 K I R o (f_X11_weightOf_4 K I R o k) x1 x2 x3 0
def f_X11_weightOf (K : Sh) (I : Im) (R : Rf) (o : Nat)  (x1 : Int32) : Option (Int32) :=
  f_X11_weightOf_4 K I R o FU x1 1 0
def f_X11_comesOverWithDry_16 (K : Sh) (o : Nat)  : Nat → Int32 → Option Nat → Int32 → Im → Rf → Option (Int32 × Im × Rf)
  | 0, _, _, _, _, _ => none
  | k + 1, x1, x2, x3, I, R =>
    Option.bind (ob K 7 (R o 7)) fun a1 =>
    Option.bind (ob K 10 (R a1 0)) fun a3 =>
    if (I a3 0) ≤ x3 then
      Option.bind (f_X11_send K o (R a1 0) (R o 15) x2 I R) fun q5 =>
      Option.bind (ob K 9 (q5.2 o 12)) fun a7 =>
      if (q5.1 a7 0) = (-5) then
        some (0, q5.1, q5.2)
      else
        some (1, q5.1, q5.2)
    else
      if ((ishr x1 x3) &&& 1) = 1 then
        Option.bind (ob K 11 (R o 15)) fun a10 =>
        Option.bind (f_X10_dryUp K R a10 x3 I) fun q12 =>
        f_X11_comesOverWithDry_16 K o k x1 x2 (x3 + 1) q12 R
      else
        f_X11_comesOverWithDry_16 K o k x1 x2 (x3 + 1) I R
def f_X11_comesOverWithDry (K : Sh) (o : Nat)  (x1 : Int32) (x2 : Option Nat) (I : Im) (R : Rf) : Option (Int32 × Im × Rf) :=
  Option.bind (ob K 7 (R o 7)) fun a16 =>
  Option.bind (ob K 11 (R o 15)) fun a18 =>
  Option.bind (f_X10_become K R a18 (R a16 1) I) fun q20 =>
  f_X11_comesOverWithDry_16 K o FU x1 x2 0 q20 R
def f_X11_commonDivisor_7   : Nat → Int32 → Int32 → Int32 → Option (Int32)
  | 0, _, _, _ => none
  | k + 1, x2, x3, x4 =>
    if 100 ≤ x4 then
      some x2
    else
      if x3 = 0 then
        some x2
      else
        Option.bind (if x3 = 0 then none else some (irem x2 x3)) fun v1 =>
        f_X11_commonDivisor_7 k x3 v1 (x4 + 1)
def f_X11_commonDivisor   (x0 : Int32) (x1 : Int32) : Option (Int32) :=
  f_X11_commonDivisor_7 FU x0 x1 0
def f_X11_likely_73 (K : Sh) (o : Nat)  : Nat → Int32 → Option Nat → Int32 → Int32 → Int32 → Im → Rf → Option (Int64 × Im × Rf)
  | 0, _, _, _, _, _, _, _ => none
  | k + 1, x2, x3, x4, x5, x6, I, R =>
    Option.bind (ob K 7 (R o 7)) fun a1 =>
    Option.bind (ob K 10 (R a1 0)) fun a3 =>
    if (ishl 1 (I a3 0)) ≤ x6 then
      Option.bind (f_X11_commonDivisor x4 x5) fun q5 =>
      if 1 ≤ q5 then
        if x2 = 0 then
          Option.bind (if q5 = 0 then none else some (x4 / q5)) fun v8 =>
          some ((v8.toInt64), I, R)
        else
          Option.bind (if q5 = 0 then none else some (x5 / q5)) fun v7 =>
          some ((v7.toInt64), I, R)
      else
        some ((-9223372036854775808 : Int64), I, R)
    else
      Option.bind (f_X11_weightOf K I R o x6) fun q11 =>
      if q11 ≤ 0 then
        f_X11_likely_73 K o k x2 x3 x4 x5 (x6 + 1) I R
      else
        Option.bind (f_X11_comesOverWithDry K o x6 x3 I R) fun q13 =>
        if q13.1 = 0 then
          f_X11_likely_73 K o k x2 x3 x4 x5 (x6 + 1) q13.2.1 q13.2.2
        else
          f_X11_likely_73 K o k x2 x3 (x4 + q11) x5 (x6 + 1) q13.2.1 q13.2.2
def f_X11_likely_42 (K : Sh) (o : Nat)  : Nat → Int32 → Option Nat → Int32 → Int32 → Int32 → Im → Rf → Option (Int64 × Im × Rf)
  | 0, _, _, _, _, _, _, _ => none
  | k + 1, x2, x3, x4, x5, x6, I, R =>
    Option.bind (ob K 7 (R o 7)) fun a18 =>
    Option.bind (ob K 10 (R a18 0)) fun a20 =>
    if (I a20 0) ≤ x6 then
      f_X11_likely_73 K o FU x2 x3 x4 x5 0 I R
    else
      f_X11_likely_42 K o k x2 x3 x4 (x5 * 10) (x6 + 1) I R
def f_X11_likely (K : Sh) (o : Nat)  (x1 : Int32) (x2 : Int32) (I : Im) (R : Rf) : Option (Int64 × Im × Rf) :=
  Option.bind (f_X11_caravanAt K I R o x1) fun q23 =>
  if q23 = none then
    some ((-9223372036854775808 : Int64), I, R)
  else
    Option.bind (f_X11_within x2 0 1) fun q25 =>
    if q25 = 0 then
      some ((-9223372036854775808 : Int64), I, R)
    else
      Option.bind (ob K 7 (R o 7)) fun a27 =>
      if (R a27 0) = none then
        some ((-9223372036854775808 : Int64), I, R)
      else
        f_X11_likely_42 K o FU x2 q23 0 1 0 I R
def f_X11_dig_176 (K : Sh) (o : Nat) (r75 : Int32 → Int32 → Int32 → Option Nat → Option Nat → Int32 → Int32 → Int32 → Im → Rf → Option (Int32 × Im × Rf)) (r97 : Int32 → Int32 → Int32 → Option Nat → Option Nat → Int32 → Int32 → Int32 → Int32 → Im → Rf → Option (Int32 × Im × Rf)) (x2 : Int32) (x3 : Int32) (x4 : Int32) (x5 : Option Nat) (x6 : Option Nat) (x9 : Int32) (x10 : Int32) (x11 : Int32) (I : Im) (R : Rf) : Option (Int32 × Im × Rf) :=
  r97 x2 x3 x4 x5 x6 x11 ((100 * x9) + x10) x9 (x10 + 1) I R
def f_X11_dig_97 (K : Sh) (o : Nat) (r75 : Int32 → Int32 → Int32 → Option Nat → Option Nat → Int32 → Int32 → Int32 → Im → Rf → Option (Int32 × Im × Rf)) : Nat → Int32 → Int32 → Int32 → Option Nat → Option Nat → Int32 → Int32 → Int32 → Int32 → Im → Rf → Option (Int32 × Im × Rf)
  | 0, _, _, _, _, _, _, _, _, _, _, _ => none
  | k + 1, x2, x3, x4, x5, x6, x7, x8, x9, x10, I, R =>
    Option.bind (ob K 10 x6) fun a1 =>
    Option.bind (ldI K I (R a1 7) x9) fun v3 =>
    if v3 ≤ x10 then
      r75 x2 x3 x4 x5 x6 x7 x8 (x9 + 1) I R
    else
      Option.bind (ob K 10 (R o 16)) fun a4 =>
      Option.bind (f_X9_becomeDug K a4 x6 x9 x10 x2 x3 I R) fun q6 =>
      Option.bind (ob K 11 (q6.2 o 15)) fun a8 =>
      Option.bind (f_X10_fill K q6.2 a8 (q6.2 o 16) q6.1) fun q10 =>
      Option.bind (ob K 4 (q6.2 o 13)) fun a12 =>
      Option.bind (f_X3_earliest K a12 (q6.2 o 16) (q6.2 o 15) x5 q10 q6.2) fun q14 =>
      if q14.1 = (-5) then
        f_X11_dig_97 K o r75 k x2 x3 x4 x5 x6 x7 x8 x9 (x10 + 1) q14.2.1 q14.2.2
      else
        if x7 = (-5) then
          f_X11_dig_176 K o r75 (f_X11_dig_97 K o r75 k) x2 x3 x4 x5 x6 x9 x10 q14.1 q14.2.1 q14.2.2
        else
          if x7 ≤ q14.1 then
            f_X11_dig_97 K o r75 k x2 x3 x4 x5 x6 x7 x8 x9 (x10 + 1) q14.2.1 q14.2.2
          else
            f_X11_dig_176 K o r75 (f_X11_dig_97 K o r75 k) x2 x3 x4 x5 x6 x9 x10 q14.1 q14.2.1 q14.2.2
def f_X11_dig_202 (K : Sh) (o : Nat)  (x4 : Int32) (x7 : Int32) (x8 : Int32) (I : Im) (R : Rf) : Option (Int32 × Im × Rf) :=
  if x4 = 0 then
    some (x8, I, R)
  else
    some (x7, I, R)
def f_X11_dig_75 (K : Sh) (o : Nat)  : Nat → Int32 → Int32 → Int32 → Option Nat → Option Nat → Int32 → Int32 → Int32 → Im → Rf → Option (Int32 × Im × Rf)
  | 0, _, _, _, _, _, _, _, _, _, _ => none
  | k + 1, x2, x3, x4, x5, x6, x7, x8, x9, I, R =>
    Option.bind (ob K 10 x6) fun a21 =>
    if (I a21 0) < x9 then
      f_X11_dig_202 K o x4 x7 x8 I R
    else
      if 5 ≤ (I a21 0) then
        f_X11_dig_202 K o x4 x7 x8 I R
      else
        f_X11_dig_97 K o (f_X11_dig_75 K o k) FU x2 x3 x4 x5 x6 x7 x8 x9 1 I R
def f_X11_dig (K : Sh) (o : Nat)  (x1 : Int32) (x2 : Int32) (x3 : Int32) (x4 : Int32) (I : Im) (R : Rf) : Option (Int32 × Im × Rf) :=
  Option.bind (f_X11_caravanAt K I R o x1) fun q25 =>
  if q25 = none then
    some ((-1), I, R)
  else
    Option.bind (f_X11_within x4 0 1) fun q27 =>
    if q27 = 0 then
      some ((-1), I, R)
    else
      Option.bind (f_X11_within x2 0 99) fun q29 =>
      if q29 = 0 then
        some ((-2), I, R)
      else
        Option.bind (f_X11_within x3 0 99) fun q31 =>
        if q31 = 0 then
          some ((-2), I, R)
        else
          Option.bind (ob K 7 (R o 7)) fun a33 =>
          if (R a33 0) = none then
            some ((-3), I, R)
          else
            f_X11_dig_75 K o FU x2 x3 x4 q25 (R a33 0) (-5) (-5) 0 I R
def f_X11_tapeAt (K : Sh) (R : Rf) (o : Nat)  (x1 : Int32) : Option ((Option Nat)) :=
  if x1 < 0 then
    some none
  else
    if 6 ≤ x1 then
      some none
    else
      Option.bind (ldR K R 26 (R o 10) x1) fun v1 =>
      some v1
def f_X11_copyStands_39 (K : Sh) (J : Jm) (R : Rf) (o : Nat)  : Nat → Option Nat → Int32 → Int32 → Int32 → Int32 → Im → Option (Int32 × Im)
  | 0, _, _, _, _, _, _ => none
  | k + 1, x1, x2, x3, x4, x5, I =>
    if x3 ≤ x5 then
      some (x4, I)
    else
      if x4 = x5 then
        Option.bind (ob K 8 x1) fun a1 =>
        Option.bind (f_X7_isPlace K I a1 (x2 + x5)) fun q3 =>
        if q3 = 0 then
          f_X11_copyStands_39 K J R o k x1 x2 x3 x4 (x5 + 1) I
        else
          Option.bind (ldJ K J (R a1 2) (x2 + x5)) fun v5 =>
          if (lg_cmp v5 (0 : Int64)) < 0 then
            f_X11_copyStands_39 K J R o k x1 x2 x3 x4 (x5 + 1) I
          else
            Option.bind (ldJ K J (R a1 2) (x2 + x5)) fun v6 =>
            if 0 < (lg_cmp v6 (6 : Int64)) then
              f_X11_copyStands_39 K J R o k x1 x2 x3 x4 (x5 + 1) I
            else
              Option.bind (ldJ K J (R a1 2) (x2 + x5)) fun v7 =>
              Option.bind (stI K I (R o 18) x5 (v7.toInt32)) fun I8 =>
              f_X11_copyStands_39 K J R o k x1 x2 x3 (x4 + 1) (x5 + 1) I8
      else
        some (x4, I)
def f_X11_copyStands_3 (K : Sh) (J : Jm) (R : Rf) (o : Nat)  : Nat → Option Nat → Int32 → Int32 → Int32 → Im → Option (Int32 × Im)
  | 0, _, _, _, _, _ => none
  | k + 1, x1, x2, x3, x4, I =>
    if 5 ≤ x4 then
      Option.bind (ob K 8 x1) fun a14 =>
      Option.bind (f_X7_isPlace K I a14 x2) fun q16 =>
      if q16 = 0 then
        some (0, I)
      else
        f_X11_copyStands_39 K J R o FU x1 x2 x3 0 0 I
    else
      Option.bind (stI K I (R o 18) x4 0) fun I19 =>
      f_X11_copyStands_3 K J R o k x1 x2 x3 (x4 + 1) I19
def f_X11_copyStands (K : Sh) (J : Jm) (R : Rf) (o : Nat)  (x1 : Option Nat) (x2 : Int32) (x3 : Int32) (I : Im) : Option (Int32 × Im) :=
  f_X11_copyStands_3 K J R o FU x1 x2 x3 0 I
def f_X11_judge_179 (K : Sh) (J : Jm) (R : Rf) (o : Nat)  (x7 : Int32) (I : Im) : Option (Int32 × Im) :=
  some (((100 + x7) + 1), I)
def f_X11_judge_153 (K : Sh) (J : Jm) (R : Rf) (o : Nat)  (x2 : Int32) (x4 : Option Nat) (x7 : Int32) (I : Im) : Option (Int32 × Im) :=
  Option.bind (ob K 8 x4) fun a1 =>
  Option.bind (f_X7_isPlace K I a1 x2) fun q3 =>
  if q3 = 0 then
    f_X11_judge_179 K J R o x7 I
  else
    Option.bind (f_X7_isPlace K I a1 (x2 + x7)) fun q5 =>
    if q5 = 0 then
      f_X11_judge_179 K J R o x7 I
    else
      some (x7, I)
def f_X11_judge_64 (K : Sh) (J : Jm) (R : Rf) (o : Nat)  (x2 : Int32) (x4 : Option Nat) (x5 : Option Nat) (x6 : Option Nat) (I : Im) : Option (Int32 × Im) :=
  Option.bind (ob K 10 x6) fun a9 =>
  Option.bind (f_X11_copyStands K J R o x4 x2 (I a9 0) I) fun q11 =>
  Option.bind (ob K 7 (R o 7)) fun a13 =>
  Option.bind (ob K 11 (R o 15)) fun a15 =>
  Option.bind (f_X10_become K R a15 (R a13 1) q11.2) fun q17 =>
  Option.bind (ob K 9 (R o 12)) fun a19 =>
  Option.bind (f_X8_make K R a19 x6 (R o 15) x5 (R o 18) q17) fun q21 =>
  if (q21 a9 0) ≤ q11.1 then
    some ((q21 a19 1), q21)
  else
    if (q21 a19 1) = (-5) then
      f_X11_judge_153 K J R o x2 x4 q11.1 q21
    else
      if q11.1 < (q21 a19 1) then
        f_X11_judge_153 K J R o x2 x4 q11.1 q21
      else
        some ((q21 a19 1), q21)
def f_X11_judge (K : Sh) (J : Jm) (R : Rf) (o : Nat)  (x1 : Int32) (x2 : Int32) (x3 : Int32) (I : Im) : Option (Int32 × Im) :=
  Option.bind (f_X11_tapeAt K R o x1) fun q26 =>
  Option.bind (f_X11_caravanAt K I R o x3) fun q28 =>
  if q26 = none then
    some ((-1), I)
  else
    if q28 = none then
      some ((-1), I)
    else
      Option.bind (ob K 7 (R o 7)) fun a30 =>
      if (R a30 0) = none then
        some ((-3), I)
      else
        Option.bind (ob K 8 q26) fun a32 =>
        if (I a32 0) = (-1) then
          f_X11_judge_64 K J R o x2 q26 q28 (R a30 0) I
        else
          if (I a32 0) = 2 then
            f_X11_judge_64 K J R o x2 q26 q28 (R a30 0) I
          else
            some ((-12), I)
def f_X11_image (K : Sh) (o : Nat)  (I : Im) (R : Rf) : Option (Int32 × Im × Rf) :=
  Option.bind (ob K 7 (R o 8)) fun a1 =>
  Option.bind (f_X6_become K a1 (R o 7) I R) fun q3 =>
  Option.bind (some (u2 q3.1 o 9 1)) fun I5 =>
  Option.bind (ob K 7 (q3.2 o 7)) fun a6 =>
  some ((I5 a6 4), I5, q3.2)
def f_X11_undo (K : Sh) (o : Nat)  (I : Im) (R : Rf) : Option (Int32 × Im × Rf) :=
  if (I o 9) = 0 then
    some ((-3), I, R)
  else
    Option.bind (ob K 7 (R o 7)) fun a1 =>
    Option.bind (f_X6_become K a1 (R o 8) I R) fun q3 =>
    Option.bind (ob K 7 (q3.2 o 7)) fun a5 =>
    some ((q3.1 a5 4), q3.1, q3.2)
def f_X11_act (Z : Nat → Nat) (K : Sh) (R : Rf) (o : Nat)  (x1 : Int32) (x2 : Int32) (x3 : Int32) (I : Im) : Option (Int32 × Im) :=
  Option.bind (ob K 1 (R o 11)) fun a1 =>
  Option.bind (some (u2 I a1 1 0)) fun I3 =>
  Option.bind (f_X11_ruleAt K I3 R o x1) fun q4 =>
  if q4 = none then
    some (0, I3)
  else
    Option.bind (f_X11_within x2 0 2) fun q6 =>
    if q6 = 0 then
      some (0, I3)
    else
      Option.bind (ob K 6 q4) fun a8 =>
      Option.bind (f_X0_perform Z K R (R o 11) q4 (I3 a8 0) x2 x3 0 I3) fun q10 =>
      some (q10.1, q10.2)
def f_X11_trace (K : Sh) (I : Im) (R : Rf) (o : Nat)  (x1 : Int32) : Option (Int32) :=
  if x1 < 0 then
    some (-1)
  else
    Option.bind (ob K 1 (R o 11)) fun a1 =>
    if (I a1 1) ≤ x1 then
      some (-1)
    else
      if 20 ≤ x1 then
        some (-1)
      else
        Option.bind (ldI K I (R a1 0) x1) fun v3 =>
        some v3
def f_X11_isUnder_4 (Z : Nat → Nat) (K : Sh) (I : Im)  : Nat → Int32 → Int32 → Int32 → Option (Int32)
  | 0, _, _, _ => none
  | k + 1, x1, x2, x3 =>
    Option.bind (alen K (some (Z 0))) fun v1 =>
    if v1 ≤ x3 then
      some 0
    else
      if x2 < 0 then
        some 0
      else
        Option.bind (alen K (some (Z 0))) fun v2 =>
        if v2 ≤ x2 then
          some 0
        else
          if x2 = x1 then
            some 1
          else
            Option.bind (ldI K I (some (Z 0)) x2) fun v3 =>
            f_X11_isUnder_4 Z K I k x1 v3 (x3 + 1)
def f_X11_isUnder (Z : Nat → Nat) (K : Sh) (I : Im)  (x0 : Int32) (x1 : Int32) : Option (Int32) :=
  f_X11_isUnder_4 Z K I FU x1 x0 0
def f_X11_taken (Z : Nat → Nat) (K : Sh) (I : Im) (R : Rf) (o : Nat)  (x1 : Int32) (x2 : Int32) : Option (Int32) :=
  Option.bind (f_X11_within x2 0 6) fun q1 =>
  if q1 = 0 then
    some (-2)
  else
    Option.bind (f_X11_ruleAt K I R o x1) fun q3 =>
    if q3 = none then
      some (-11)
    else
      Option.bind (ob K 6 q3) fun a5 =>
      Option.bind (f_X11_isUnder Z K I (I a5 0) x2) fun q7 =>
      if q7 = 0 then
        some (-12)
      else
        some (I a5 0)
def f_X11_count (K : Sh) (I : Im) (R : Rf) (o : Nat)  (x1 : Int32) : Option (Int32) :=
  if x1 = 0 then
    some (I o 1)
  else
  if x1 = 1 then
    some (I o 4)
  else
  if x1 = 2 then
    some (I o 6)
  else
  if x1 = 3 then
    Option.bind (ob K 7 (R o 7)) fun a4 =>
    some (I a4 4)
  else
  if x1 = 4 then
    Option.bind (ob K 7 (R o 7)) fun a7 =>
    some (I a7 6)
  else
  if x1 = 5 then
    Option.bind (ob K 5 (R o 0)) fun a10 =>
    some (I a10 1)
  else
  if x1 = 6 then
    Option.bind (ob K 1 (R o 11)) fun a13 =>
    some (I a13 1)
  else
  some (-2)
def f_X11_tape_62 (K : Sh) (R : Rf) (o : Nat)  (s0 : Option Nat) (s1 : Int32) (s2 : Int32) (I : Im) (J : Jm) : Option (Int32 × Im × Jm) :=
  Option.bind (ob K 8 s0) fun a1 =>
  Option.bind (f_X7_become K R a1 s1 s2 I J) fun q3 =>
  some (1, q3.1, q3.2)
def f_X11_tape_49 (K : Sh) (R : Rf) (o : Nat)  (x2 : Int32) (x3 : Int32) (x4 : Option Nat) (I : Im) (J : Jm) : Option (Int32 × Im × Jm) :=
  if x2 = (-1) then
    f_X11_tape_62 K R o x4 x2 0 I J
  else
    f_X11_tape_62 K R o x4 x2 x3 I J
def f_X11_tape_37 (K : Sh) (R : Rf) (o : Nat)  (x2 : Int32) (x3 : Int32) (x4 : Option Nat) (I : Im) (J : Jm) : Option (Int32 × Im × Jm) :=
  if x2 = (-1) then
    f_X11_tape_49 K R o x2 x3 x4 I J
  else
    if 0 ≤ x3 then
      f_X11_tape_49 K R o x2 x3 x4 I J
    else
      some ((-14), I, J)
def f_X11_tape (K : Sh) (R : Rf) (o : Nat)  (x1 : Int32) (x2 : Int32) (x3 : Int32) (I : Im) (J : Jm) : Option (Int32 × Im × Jm) :=
  Option.bind (f_X11_tapeAt K R o x1) fun q8 =>
  if q8 = none then
    some ((-1), I, J)
  else
    Option.bind (f_X11_within x2 (-1) 4) fun q10 =>
    if q10 = 0 then
      some ((-2), I, J)
    else
      if x2 = (-1) then
        f_X11_tape_37 K R o x2 x3 q8 I J
      else
        if x3 ≤ 60 then
          f_X11_tape_37 K R o x2 x3 q8 I J
        else
          some ((-2), I, J)
def f_X11_item (K : Sh) (I : Im) (R : Rf) (o : Nat)  (x1 : Int32) (x2 : Int32) (x3 : Int64) (J : Jm) : Option (Int32 × Jm) :=
  Option.bind (f_X11_tapeAt K R o x1) fun q1 =>
  if q1 = none then
    some ((-1), J)
  else
    Option.bind (ob K 8 q1) fun a3 =>
    if (I a3 0) = (-1) then
      some ((-11), J)
    else
      Option.bind (f_X7_isPlace K I a3 x2) fun q5 =>
      if q5 = 0 then
        some ((-13), J)
      else
        Option.bind (f_X7_narrowed K I a3 x3) fun q7 =>
        Option.bind (stJ K J (R a3 2) x2 q7) fun J9 =>
        some (1, J9)
def f_X11_read (K : Sh) (I : Im) (J : Jm) (R : Rf) (o : Nat)  (x1 : Int32) (x2 : Int32) : Option (Int64) :=
  Option.bind (f_X11_tapeAt K R o x1) fun q1 =>
  if q1 = none then
    some (-9223372036854775808 : Int64)
  else
    Option.bind (ob K 8 q1) fun a3 =>
    Option.bind (f_X7_isPlace K I a3 x2) fun q5 =>
    if q5 = 0 then
      some (-9223372036854775808 : Int64)
    else
      Option.bind (ldJ K J (R a3 2) x2) fun v7 =>
      some v7
def f_X11_shift (K : Sh) (I : Im) (R : Rf) (o : Nat)  (x1 : Int32) (x2 : Int32) (x3 : Int32) (x4 : Int32) (x5 : Int32) (J : Jm) : Option (Int32 × Jm) :=
  Option.bind (f_X11_tapeAt K R o x1) fun q1 =>
  Option.bind (f_X11_tapeAt K R o x3) fun q3 =>
  if q1 = none then
    some ((-1), J)
  else
    if q3 = none then
      some ((-1), J)
    else
      Option.bind (ob K 8 q1) fun a5 =>
      if (I a5 0) = (-1) then
        some ((-11), J)
      else
        Option.bind (ob K 8 q3) fun a7 =>
        if (I a7 0) = (-1) then
          some ((-11), J)
        else
          if (I a5 0) = (I a7 0) then
            Option.bind (f_X7_isStretch K I a5 x2 x5) fun q9 =>
            if q9 = 0 then
              some ((-13), J)
            else
              Option.bind (f_X7_isStretch K I a7 x4 x5) fun q11 =>
              if q11 = 0 then
                some ((-13), J)
              else
                Option.bind (cpJ K J (R a5 2) x2 (R a7 2) x4 x5) fun J13 =>
                some (x5, J13)
          else
            some ((-12), J)
def f_X12_init (o : Nat)  (K : Sh) (n : Nat) (I : Im) (J : Jm) (R : Rf) : Option (Sh × Nat × Im × Jm × Rf) :=
  Option.bind (ob K 13 (some o)) fun a1 =>
  Option.bind (some (u2 I a1 0 0)) fun I3 =>
  Option.bind (some (u2 I3 a1 1 (-1))) fun I4 =>
  Option.bind (some (u2 I4 a1 2 0)) fun I5 =>
  Option.bind (some (u2 I5 a1 3 0)) fun I6 =>
  Option.bind (some (u2 I6 a1 4 0)) fun I7 =>
  Option.bind (some (u1 K n (21, 100))) fun K8 =>
  Option.bind (some (zr I7 n 0)) fun I9 =>
  Option.bind (ob K8 13 (some o)) fun a10 =>
  Option.bind (some (u2 R a10 5 (some n))) fun R12 =>
  Option.bind (some (u1 K8 (n + 1) (21, 5))) fun K13 =>
  Option.bind (some (zr I9 (n + 1) 0)) fun I14 =>
  Option.bind (ob K13 13 (some o)) fun a15 =>
  Option.bind (some (u2 R12 a15 6 (some (n + 1)))) fun R17 =>
  Option.bind (some (u1 K13 (n + 2) (21, 60))) fun K18 =>
  Option.bind (some (zr I14 (n + 2) 0)) fun I19 =>
  Option.bind (ob K18 13 (some o)) fun a20 =>
  Option.bind (some (u2 R17 a20 7 (some (n + 2)))) fun R22 =>
  Option.bind (some (u1 K18 (n + 3) (21, 60))) fun K23 =>
  Option.bind (some (zr I19 (n + 3) 0)) fun I24 =>
  Option.bind (ob K23 13 (some o)) fun a25 =>
  Option.bind (some (u2 R22 a25 8 (some (n + 3)))) fun R27 =>
  Option.bind (some (u1 K23 (n + 4) (21, 60))) fun K28 =>
  Option.bind (some (zr I24 (n + 4) 0)) fun I29 =>
  Option.bind (ob K28 13 (some o)) fun a30 =>
  Option.bind (some (u2 R27 a30 9 (some (n + 4)))) fun R32 =>
  Option.bind (some (u1 K28 (n + 5) (21, 60))) fun K33 =>
  Option.bind (some (zr I29 (n + 5) 0)) fun I34 =>
  Option.bind (ob K33 13 (some o)) fun a35 =>
  Option.bind (some (u2 R32 a35 10 (some (n + 5)))) fun R37 =>
  Option.bind (some (u1 K33 (n + 6) (21, 60))) fun K38 =>
  Option.bind (some (zr I34 (n + 6) 0)) fun I39 =>
  Option.bind (ob K38 13 (some o)) fun a40 =>
  Option.bind (some (u2 R37 a40 11 (some (n + 6)))) fun R42 =>
  Option.bind (some (u1 K38 (n + 7) (21, 500))) fun K43 =>
  Option.bind (some (zr I39 (n + 7) 0)) fun I44 =>
  Option.bind (ob K43 13 (some o)) fun a45 =>
  Option.bind (some (u2 R42 a45 12 (some (n + 7)))) fun R47 =>
  Option.bind (some (u1 K43 (n + 8) (21, 101))) fun K48 =>
  Option.bind (some (zr I44 (n + 8) 0)) fun I49 =>
  Option.bind (ob K48 13 (some o)) fun a50 =>
  Option.bind (some (u2 R47 a50 13 (some (n + 8)))) fun R52 =>
  Option.bind (some (u2 I49 a50 14 0)) fun I53 =>
  Option.bind (some (u2 I53 a50 15 0)) fun I54 =>
  Option.bind (some (u2 I54 a50 16 0)) fun I55 =>
  Option.bind (some (u1 K48 (n + 9) (23, 100))) fun K56 =>
  Option.bind (some (zr I55 (n + 9) 0)) fun I57 =>
  Option.bind (ob K56 13 (some o)) fun a58 =>
  Option.bind (some (u2 R52 a58 17 (some (n + 9)))) fun R60 =>
  Option.bind (some (u1 K56 (n + 10) (21, 5))) fun K61 =>
  Option.bind (some (zr I57 (n + 10) 0)) fun I62 =>
  Option.bind (ob K61 13 (some o)) fun a63 =>
  Option.bind (some (u2 R60 a63 18 (some (n + 10)))) fun R65 =>
  Option.bind (some (u1 K61 (n + 11) (21, 5))) fun K66 =>
  Option.bind (some (zr I62 (n + 11) 0)) fun I67 =>
  Option.bind (ob K66 13 (some o)) fun a68 =>
  Option.bind (some (u2 R65 a68 19 (some (n + 11)))) fun R70 =>
  Option.bind (some (u1 K66 (n + 12) (21, 5))) fun K71 =>
  Option.bind (some (zr I67 (n + 12) 0)) fun I72 =>
  Option.bind (ob K71 13 (some o)) fun a73 =>
  Option.bind (some (u2 R70 a73 20 (some (n + 12)))) fun R75 =>
  Option.bind (some (u2 I72 a73 21 0)) fun I76 =>
  Option.bind (some (u1 K71 (n + 13) (21, 6))) fun K77 =>
  Option.bind (some (zr I76 (n + 13) 0)) fun I78 =>
  Option.bind (ob K77 13 (some o)) fun a79 =>
  Option.bind (some (u2 R75 a79 22 (some (n + 13)))) fun R81 =>
  Option.bind (some (u1 K77 (n + 14) (21, 6))) fun K82 =>
  Option.bind (some (zr I78 (n + 14) 0)) fun I83 =>
  Option.bind (ob K82 13 (some o)) fun a84 =>
  Option.bind (some (u2 R81 a84 23 (some (n + 14)))) fun R86 =>
  Option.bind (some (u1 K82 (n + 15) (21, 7))) fun K87 =>
  Option.bind (some (zr I83 (n + 15) 0)) fun I88 =>
  Option.bind (ob K87 13 (some o)) fun a89 =>
  Option.bind (some (u2 R86 a89 24 (some (n + 15)))) fun R91 =>
  Option.bind (some (u1 K87 (n + 16) (21, 6))) fun K92 =>
  Option.bind (some (zr I88 (n + 16) 0)) fun I93 =>
  Option.bind (ob K92 13 (some o)) fun a94 =>
  Option.bind (some (u2 R91 a94 25 (some (n + 16)))) fun R96 =>
  Option.bind (some (u1 K92 (n + 17) (21, 6))) fun K97 =>
  Option.bind (some (zr I93 (n + 17) 0)) fun I98 =>
  Option.bind (ob K97 13 (some o)) fun a99 =>
  Option.bind (some (u2 R96 a99 26 (some (n + 17)))) fun R101 =>
  Option.bind (some (u2 I98 a99 27 0)) fun I102 =>
  Option.bind (some (u2 I102 a99 28 0)) fun I103 =>
  Option.bind (some (u2 I103 a99 29 0)) fun I104 =>
  Option.bind (some (u1 K97 (n + 18) (21, 11))) fun K105 =>
  Option.bind (some (zr I104 (n + 18) 0)) fun I106 =>
  Option.bind (ob K105 13 (some o)) fun a107 =>
  Option.bind (some (u2 R101 a107 30 (some (n + 18)))) fun R109 =>
  Option.bind (some (u1 K105 (n + 19) (21, 11))) fun K110 =>
  Option.bind (some (zr I106 (n + 19) 0)) fun I111 =>
  Option.bind (ob K110 13 (some o)) fun a112 =>
  Option.bind (some (u2 R109 a112 31 (some (n + 19)))) fun R114 =>
  Option.bind (some (u1 K110 (n + 20) (21, 11))) fun K115 =>
  Option.bind (some (zr I111 (n + 20) 0)) fun I116 =>
  Option.bind (ob K115 13 (some o)) fun a117 =>
  Option.bind (some (u2 R114 a117 32 (some (n + 20)))) fun R119 =>
  Option.bind (some (u1 K115 (n + 21) (21, 55))) fun K120 =>
  Option.bind (some (zr I116 (n + 21) 0)) fun I121 =>
  Option.bind (ob K120 13 (some o)) fun a122 =>
  Option.bind (some (u2 R119 a122 33 (some (n + 21)))) fun R124 =>
  Option.bind (some (u1 K120 (n + 22) (21, 7))) fun K125 =>
  Option.bind (some (zr I121 (n + 22) 0)) fun I126 =>
  Option.bind (ob K125 13 (some o)) fun a127 =>
  Option.bind (some (u2 R124 a127 34 (some (n + 22)))) fun R129 =>
  Option.bind (some (u1 K125 (n + 23) (21, 7))) fun K130 =>
  Option.bind (some (zr I126 (n + 23) 0)) fun I131 =>
  Option.bind (ob K130 13 (some o)) fun a132 =>
  Option.bind (some (u2 R129 a132 35 (some (n + 23)))) fun R134 =>
  Option.bind (some (u1 K130 (n + 24) (21, 7))) fun K135 =>
  Option.bind (some (zr I131 (n + 24) 0)) fun I136 =>
  Option.bind (ob K135 13 (some o)) fun a137 =>
  Option.bind (some (u2 R134 a137 36 (some (n + 24)))) fun R139 =>
  Option.bind (some (u1 K135 (n + 25) (21, 5))) fun K140 =>
  Option.bind (some (zr I136 (n + 25) 0)) fun I141 =>
  Option.bind (ob K140 13 (some o)) fun a142 =>
  Option.bind (some (u2 R139 a142 37 (some (n + 25)))) fun R144 =>
  Option.bind (some (u1 K140 (n + 26) (21, 168))) fun K145 =>
  Option.bind (some (zr I141 (n + 26) 0)) fun I146 =>
  Option.bind (ob K145 13 (some o)) fun a147 =>
  Option.bind (some (u2 R144 a147 38 (some (n + 26)))) fun R149 =>
  Option.bind (some (u1 K145 (n + 27) (21, 6))) fun K150 =>
  Option.bind (some (zr I146 (n + 27) 0)) fun I151 =>
  Option.bind (ob K150 13 (some o)) fun a152 =>
  Option.bind (some (u2 R149 a152 39 (some (n + 27)))) fun R154 =>
  Option.bind (some (u1 K150 (n + 28) (21, 6))) fun K155 =>
  Option.bind (some (zr I151 (n + 28) 0)) fun I156 =>
  Option.bind (ob K155 13 (some o)) fun a157 =>
  Option.bind (some (u2 R154 a157 40 (some (n + 28)))) fun R159 =>
  Option.bind (some (u1 K155 (n + 29) (21, 6))) fun K160 =>
  Option.bind (some (zr I156 (n + 29) 0)) fun I161 =>
  Option.bind (ob K160 13 (some o)) fun a162 =>
  Option.bind (some (u2 R159 a162 41 (some (n + 29)))) fun R164 =>
  Option.bind (some (u1 K160 (n + 30) (21, 6))) fun K165 =>
  Option.bind (some (zr I161 (n + 30) 0)) fun I166 =>
  Option.bind (ob K165 13 (some o)) fun a167 =>
  Option.bind (some (u2 R164 a167 42 (some (n + 30)))) fun R169 =>
  Option.bind (some (u1 K165 (n + 31) (21, 6))) fun K170 =>
  Option.bind (some (zr I166 (n + 31) 0)) fun I171 =>
  Option.bind (ob K170 13 (some o)) fun a172 =>
  Option.bind (some (u2 R169 a172 43 (some (n + 31)))) fun R174 =>
  Option.bind (some (u1 K170 (n + 32) (21, 6))) fun K175 =>
  Option.bind (some (zr I171 (n + 32) 0)) fun I176 =>
  Option.bind (ob K175 13 (some o)) fun a177 =>
  Option.bind (some (u2 R174 a177 44 (some (n + 32)))) fun R179 =>
  Option.bind (some (u2 I176 a177 45 0)) fun I180 =>
  Option.bind (some (u2 I180 a177 46 0)) fun I181 =>
  Option.bind (some (u2 I181 a177 47 0)) fun I182 =>
  Option.bind (some (u2 I182 a177 48 0)) fun I183 =>
  Option.bind (some (u2 I183 a177 49 (-5))) fun I184 =>
  Option.bind (some (u2 I184 a177 50 (-5))) fun I185 =>
  Option.bind (some (u2 I185 a177 51 0)) fun I186 =>
  Option.bind (some (u1 K175 (n + 33) (21, 3))) fun K187 =>
  Option.bind (some (zr I186 (n + 33) 0)) fun I188 =>
  Option.bind (ob K187 13 (some o)) fun a189 =>
  Option.bind (some (u2 R179 a189 52 (some (n + 33)))) fun R191 =>
  Option.bind (some (u1 K187 (n + 34) (21, 3))) fun K192 =>
  Option.bind (some (zr I188 (n + 34) 0)) fun I193 =>
  Option.bind (ob K192 13 (some o)) fun a194 =>
  Option.bind (some (u2 R191 a194 53 (some (n + 34)))) fun R196 =>
  Option.bind (some (u1 K192 (n + 35) (21, 3))) fun K197 =>
  Option.bind (some (zr I193 (n + 35) 0)) fun I198 =>
  Option.bind (ob K197 13 (some o)) fun a199 =>
  Option.bind (some (u2 R196 a199 54 (some (n + 35)))) fun R201 =>
  Option.bind (some (u1 K197 (n + 36) (21, 3))) fun K202 =>
  Option.bind (some (zr I198 (n + 36) 0)) fun I203 =>
  Option.bind (ob K202 13 (some o)) fun a204 =>
  Option.bind (some (u2 R201 a204 55 (some (n + 36)))) fun R206 =>
  Option.bind (some (u2 I203 a204 56 0)) fun I207 =>
  Option.bind (some (u2 I207 a204 57 0)) fun I208 =>
  Option.bind (some (u2 I208 a204 58 0)) fun I209 =>
  Option.bind (some (u2 I209 a204 59 (-1))) fun I210 =>
  Option.bind (some (u2 I210 a204 60 0)) fun I211 =>
  Option.bind (some (u2 I211 a204 61 0)) fun I212 =>
  Option.bind (some (u1 K202 (n + 37) (21, 5))) fun K213 =>
  Option.bind (some (zr I212 (n + 37) 0)) fun I214 =>
  Option.bind (ob K213 13 (some o)) fun a215 =>
  Option.bind (some (u2 R206 a215 62 (some (n + 37)))) fun R217 =>
  Option.bind (some (u1 K213 (n + 38) (21, 5))) fun K218 =>
  Option.bind (some (zr I214 (n + 38) 0)) fun I219 =>
  Option.bind (ob K218 13 (some o)) fun a220 =>
  Option.bind (some (u2 R217 a220 63 (some (n + 38)))) fun R222 =>
  Option.bind (some (u1 K218 (n + 39) (21, 5))) fun K223 =>
  Option.bind (some (zr I219 (n + 39) 0)) fun I224 =>
  Option.bind (ob K223 13 (some o)) fun a225 =>
  Option.bind (some (u2 R222 a225 64 (some (n + 39)))) fun R227 =>
  Option.bind (some (u1 K223 (n + 40) (21, 3))) fun K228 =>
  Option.bind (some (zr I224 (n + 40) 0)) fun I229 =>
  Option.bind (ob K228 13 (some o)) fun a230 =>
  Option.bind (some (u2 R227 a230 65 (some (n + 40)))) fun R232 =>
  Option.bind (some (u1 K228 (n + 41) (21, 5))) fun K233 =>
  Option.bind (some (zr I229 (n + 41) 0)) fun I234 =>
  Option.bind (ob K233 13 (some o)) fun a235 =>
  Option.bind (some (u2 R232 a235 66 (some (n + 41)))) fun R237 =>
  Option.bind (some (u2 I234 a235 67 0)) fun I238 =>
  Option.bind (some (u1 K233 (n + 42) (21, 20))) fun K239 =>
  Option.bind (some (zr I238 (n + 42) 0)) fun I240 =>
  Option.bind (ob K239 13 (some o)) fun a241 =>
  Option.bind (some (u2 R237 a241 68 (some (n + 42)))) fun R243 =>
  Option.bind (some (u1 K239 (n + 43) (21, 6))) fun K244 =>
  Option.bind (some (zr I240 (n + 43) 0)) fun I245 =>
  Option.bind (stI K244 I245 (some (n + 43)) 0 (-1)) fun I246 =>
  Option.bind (stI K244 I246 (some (n + 43)) 1 (-1)) fun I247 =>
  Option.bind (stI K244 I247 (some (n + 43)) 2 (-1)) fun I248 =>
  Option.bind (stI K244 I248 (some (n + 43)) 3 (-1)) fun I249 =>
  Option.bind (stI K244 I249 (some (n + 43)) 4 (-1)) fun I250 =>
  Option.bind (stI K244 I250 (some (n + 43)) 5 (-1)) fun I251 =>
  Option.bind (ob K244 13 (some o)) fun a252 =>
  Option.bind (some (u2 R243 a252 69 (some (n + 43)))) fun R254 =>
  Option.bind (some (u1 K244 (n + 44) (21, 6))) fun K255 =>
  Option.bind (some (zr I251 (n + 44) 0)) fun I256 =>
  Option.bind (ob K255 13 (some o)) fun a257 =>
  Option.bind (some (u2 R254 a257 70 (some (n + 44)))) fun R259 =>
  Option.bind (some (u1 K255 (n + 45) (22, 360))) fun K260 =>
  Option.bind (some (zr J (n + 45) 0)) fun J261 =>
  Option.bind (ob K260 13 (some o)) fun a262 =>
  Option.bind (some (u2 R259 a262 71 (some (n + 45)))) fun R264 =>
  Option.bind (some (u1 K260 (n + 46) (22, 60))) fun K265 =>
  Option.bind (some (zr J261 (n + 46) 0)) fun J266 =>
  Option.bind (ob K265 13 (some o)) fun a267 =>
  Option.bind (some (u2 R264 a267 72 (some (n + 46)))) fun R269 =>
  some (K265, (n + 47), I256, J266, R269)
def f_X12_in (o : Nat)  (x1 : Int32) (x2 : Int32) (x3 : Int32) : Option (Int32) :=
  if x1 < x2 then
    some 0
  else
    if x3 < x1 then
      some 0
    else
      some 1
def f_X12_min (o : Nat)  (x1 : Int32) (x2 : Int32) : Option (Int32) :=
  if x2 ≤ x1 then
    some x2
  else
    some x1
def f_X12_feed_31 (K : Sh) (R : Rf) (o : Nat)  : Nat → Int32 → Int32 → Im → Option (Int32 × Im)
  | 0, _, _, _ => none
  | k + 1, x1, x3, I =>
    if x3 < 0 then
      some ((I o 2), I)
    else
      Option.bind (stI K I (R o 5) (I o 2) ((ishr x1 (8 * x3)).toInt8.toInt32)) fun I1 =>
      Option.bind (some (u2 I1 o 2 ((I1 o 2) + 1))) fun I2 =>
      f_X12_feed_31 K R o k x1 (x3 - 1) I2
def f_X12_feed (K : Sh) (R : Rf) (o : Nat)  (x1 : Int32) (x2 : Int32) (I : Im) : Option (Int32 × Im) :=
  Option.bind (f_X12_in o x2 0 4) fun q4 =>
  if q4 = 0 then
    some ((-2), I)
  else
    if ((I o 2) + x2) ≤ 100 then
      f_X12_feed_31 K R o FU x1 (x2 - 1) I
    else
      some ((-4), I)
def f_X12_next (K : Sh) (I : Im) (R : Rf) (o : Nat)   : Option (Int32) :=
  if (I o 2) ≤ (I o 3) then
    some (-1)
  else
    Option.bind (ldI K I (R o 5) (I o 3)) fun v1 =>
    some v1
def f_X12_second (K : Sh) (I : Im) (R : Rf) (o : Nat)   : Option (Int32) :=
  if (I o 2) ≤ ((I o 3) + 1) then
    some (-1)
  else
    Option.bind (ldI K I (R o 5) ((I o 3) + 1)) fun v1 =>
    some v1
def f_X12_takes (K : Sh) (R : Rf) (o : Nat)  (x1 : Int32) (I : Im) : Option (Int32 × Im) :=
  Option.bind (f_X12_next K I R o) fun q1 =>
  if q1 = x1 then
    Option.bind (some (u2 I o 3 ((I o 3) + 1))) fun I3 =>
    some (1, I3)
  else
    some (0, I)
def f_X12_takesWord_4 (K : Sh) (R : Rf) (o : Nat)  : Nat → Int32 → Int32 → Im → Option (Int32 × Im)
  | 0, _, _, _ => none
  | k + 1, x1, x3, I =>
    if x3 < 0 then
      Option.bind (f_X12_takes K R o 32 I) fun q1 =>
      Option.bind (if q1.1 &&& 1 = q1.1 then some q1.1 else none) fun v3 =>
      some (v3, q1.2)
    else
      Option.bind (f_X12_takes K R o (96 + ((ishr x1 (5 * x3)) &&& 31)) I) fun q5 =>
      if q5.1 = 0 then
        some (0, q5.2)
      else
        f_X12_takesWord_4 K R o k x1 (x3 - 1) q5.2
def f_X12_takesWord (K : Sh) (R : Rf) (o : Nat)  (x1 : Int32) (x2 : Int32) (I : Im) : Option (Int32 × Im) :=
  f_X12_takesWord_4 K R o FU x1 (x2 - 1) I
def f_X12_isDigit (K : Sh) (I : Im) (R : Rf) (o : Nat)   : Option (Int32) :=
  Option.bind (f_X12_next K I R o) fun q1 =>
  Option.bind (f_X12_in o q1 48 57) fun q3 =>
  Option.bind (if q3 &&& 1 = q3 then some q3 else none) fun v5 =>
  some v5
def f_X12_takesNumber_16 (K : Sh) (R : Rf) (o : Nat)  : Nat → Int32 → Int32 → Im → Option (Int32 × Im)
  | 0, _, _, _ => none
  | k + 1, x1, x2, I =>
    if x1 ≤ x2 then
      some (1, I)
    else
      Option.bind (f_X12_isDigit K I R o) fun q1 =>
      if q1 = 0 then
        some (1, I)
      else
        Option.bind (f_X12_next K I R o) fun q3 =>
        Option.bind (some (u2 I o 4 (((10 * (I o 4)) + q3) - 48))) fun I5 =>
        Option.bind (some (u2 I5 o 3 ((I5 o 3) + 1))) fun I6 =>
        f_X12_takesNumber_16 K R o k x1 (x2 + 1) I6
def f_X12_takesNumber (K : Sh) (R : Rf) (o : Nat)  (x1 : Int32) (I : Im) : Option (Int32 × Im) :=
  Option.bind (f_X12_isDigit K I R o) fun q9 =>
  if q9 = 0 then
    some (0, I)
  else
    Option.bind (some (u2 I o 4 0)) fun I11 =>
    f_X12_takesNumber_16 K R o FU x1 0 I11
def f_X12_put (K : Sh) (R : Rf) (o : Nat)  (x1 : Int32) (I : Im) : Option (Im) :=
  Option.bind (stI K I (R o 12) (I o 14) x1) fun I1 =>
  Option.bind (some (u2 I1 o 14 ((I1 o 14) + 1))) fun I2 =>
  some I2
def f_X12_whole_0 (K : Sh) (R : Rf) (o : Nat)  : Nat → Im → Option (Im)
  | 0, _ => none
  | k + 1, I =>
    if (I o 15) ≤ 0 then
      some I
    else
      Option.bind (ldI K I (R o 13) ((I o 15) - 1)) fun v1 =>
      if v1 = 33 then
        Option.bind (f_X12_put K R o (-33) I) fun q2 =>
        Option.bind (some (u2 q2 o 15 ((q2 o 15) - 1))) fun I4 =>
        Option.bind (some (u2 I4 o 16 ((I4 o 16) - 1))) fun I5 =>
        f_X12_whole_0 K R o k I5
      else
        some I
def f_X12_whole (K : Sh) (R : Rf) (o : Nat) (I : Im) : Option (Im) := f_X12_whole_0 K R o FU I
def f_X12_settle_45 (K : Sh) (R : Rf) (o : Nat) (r0 : Int32 → Im → Option (Im)) (x1 : Int32) (I : Im) : Option (Im) :=
  Option.bind (some (u2 I o 15 ((I o 15) - 1))) fun I1 =>
  Option.bind (ldI K I1 (R o 13) (I1 o 15)) fun v2 =>
  Option.bind (f_X12_put K R o (-v2) I1) fun q3 =>
  r0 x1 q3
def f_X12_settle_0 (K : Sh) (R : Rf) (o : Nat)  : Nat → Int32 → Im → Option (Im)
  | 0, _, _ => none
  | k + 1, x1, I =>
    if (I o 15) ≤ 0 then
      some I
    else
      Option.bind (ldI K I (R o 13) ((I o 15) - 1)) fun v5 =>
      if v5 = 38 then
        f_X12_settle_45 K R o (f_X12_settle_0 K R o k) x1 I
      else
        Option.bind (ldI K I (R o 13) ((I o 15) - 1)) fun v6 =>
        if v6 = 124 then
          if x1 = 38 then
            some I
          else
            f_X12_settle_45 K R o (f_X12_settle_0 K R o k) x1 I
        else
          some I
def f_X12_settle (K : Sh) (R : Rf) (o : Nat) (x1 : Int32) (I : Im) : Option (Im) := f_X12_settle_0 K R o FU x1 I
def f_X12_place (o : Nat)  (x1 : Int32) : Option (Int32) :=
  if x1 = 98 then
    some 1
  else
  if x1 = 104 then
    some 0
  else
  if x1 = 119 then
    some 2
  else
  some (-1)
def f_X12_takesTest (K : Sh) (R : Rf) (o : Nat)  (I : Im) : Option (Int32 × Im) :=
  Option.bind (f_X12_next K I R o) fun q1 =>
  Option.bind (f_X12_place o q1) fun q3 =>
  if 0 ≤ q3 then
    Option.bind (some (u2 I o 3 ((I o 3) + 1))) fun I5 =>
    Option.bind (f_X12_next K I5 R o) fun q6 =>
    Option.bind (f_X12_in o q6 60 62) fun q8 =>
    if q8 = 0 then
      some (0, I5)
    else
      Option.bind (some (u2 I5 o 3 ((I5 o 3) + 1))) fun I10 =>
      Option.bind (f_X12_takesNumber K R o 2 I10) fun q11 =>
      if q11.1 = 0 then
        some (0, q11.2)
      else
        Option.bind (f_X12_put K R o (((1000 * q3) + (100 * (q6 - 60))) + (q11.2 o 4)) q11.2) fun q13 =>
        Option.bind (f_X12_whole K R o q13) fun q15 =>
        some (1, q15)
  else
    some (0, I)
def f_X12_takesE_122 (K : Sh) (R : Rf) (o : Nat) (r22 : Int32 → Int32 → Im → Option (Int32 × Im)) (x1 : Int32) (x3 : Int32) (I : Im) : Option (Int32 × Im) :=
  Option.bind (f_X12_settle K R o x3 I) fun q1 =>
  Option.bind (stI K q1 (R o 13) (q1 o 15) x3) fun I3 =>
  Option.bind (some (u2 I3 o 15 ((I3 o 15) + 1))) fun I4 =>
  Option.bind (some (u2 I4 o 3 ((I4 o 3) + 1))) fun I5 =>
  r22 x1 1 I5
def f_X12_takesE_43 (K : Sh) (R : Rf) (o : Nat) (r22 : Int32 → Int32 → Im → Option (Int32 × Im)) (x1 : Int32) (x2 : Int32) (x3 : Int32) (I : Im) : Option (Int32 × Im) :=
  if (I o 16) = 4 then
    some (0, I)
  else
    Option.bind (some (u2 I o 16 ((I o 16) + 1))) fun I6 =>
    Option.bind (stI K I6 (R o 13) (I6 o 15) x3) fun I7 =>
    Option.bind (some (u2 I7 o 15 ((I7 o 15) + 1))) fun I8 =>
    Option.bind (some (u2 I8 o 3 ((I8 o 3) + 1))) fun I9 =>
    r22 x1 x2 I9
def f_X12_takesE_22 (K : Sh) (R : Rf) (o : Nat)  : Nat → Int32 → Int32 → Im → Option (Int32 × Im)
  | 0, _, _, _ => none
  | k + 1, x1, x2, I =>
    Option.bind (f_X12_next K I R o) fun q11 =>
    if x2 = 0 then
      if q11 = 38 then
        f_X12_takesE_122 K R o (f_X12_takesE_22 K R o k) x1 q11 I
      else
        if q11 = 124 then
          f_X12_takesE_122 K R o (f_X12_takesE_22 K R o k) x1 q11 I
        else
          Option.bind (f_X12_settle K R o 124 I) fun q13 =>
          Option.bind (stI K q13 (R o 11) x1 (q13 o 14)) fun I15 =>
          if (I15 o 15) = 0 then
            some (1, I15)
          else
            if q11 = 41 then
              Option.bind (some (u2 I15 o 15 ((I15 o 15) - 1))) fun I16 =>
              Option.bind (some (u2 I16 o 16 ((I16 o 16) - 1))) fun I17 =>
              Option.bind (some (u2 I17 o 3 ((I17 o 3) + 1))) fun I18 =>
              Option.bind (f_X12_whole K R o I18) fun q19 =>
              f_X12_takesE_22 K R o k x1 x2 q19
            else
              some (0, I15)
    else
      if q11 = 33 then
        f_X12_takesE_43 K R o (f_X12_takesE_22 K R o k) x1 x2 q11 I
      else
        if q11 = 40 then
          f_X12_takesE_43 K R o (f_X12_takesE_22 K R o k) x1 x2 q11 I
        else
          Option.bind (f_X12_takesTest K R o I) fun q25 =>
          if q25.1 = 0 then
            some (0, q25.2)
          else
            f_X12_takesE_22 K R o k x1 0 q25.2
def f_X12_takesE (K : Sh) (R : Rf) (o : Nat)  (x1 : Int32) (I : Im) : Option (Int32 × Im) :=
  Option.bind (some (u2 I o 15 0)) fun I31 =>
  Option.bind (some (u2 I31 o 16 0)) fun I32 =>
  Option.bind (stI K I32 (R o 10) x1 (I32 o 14)) fun I33 =>
  f_X12_takesE_22 K R o FU x1 1 I33
def f_X12_takesHead_68 (K : Sh) (R : Rf) (o : Nat)  (x2 : Int32) (s0 : Option Nat) (s1 : Int32) (s2 : Int32) (I : Im) : Option (Int32 × Im) :=
  Option.bind (stI K I s0 s1 s2) fun I1 =>
  if x2 = 97 then
    Option.bind (f_X12_takesWord K R o 23609 3 I1) fun q6 =>
    Option.bind (if q6.1 &&& 1 = q6.1 then some q6.1 else none) fun v8 =>
    some (v8, q6.2)
  else
    Option.bind (f_X12_takesWord K R o 759180 4 I1) fun q2 =>
    Option.bind (if q2.1 &&& 1 = q2.1 then some q2.1 else none) fun v4 =>
    some (v4, q2.2)
def f_X12_takesHead (K : Sh) (R : Rf) (o : Nat)  (x1 : Int32) (I : Im) : Option (Int32 × Im) :=
  Option.bind (f_X12_second K I R o) fun q11 =>
  Option.bind (f_X12_next K I R o) fun q13 =>
  if q13 = 99 then
    Option.bind (stI K I (R o 7) x1 3) fun I15 =>
    Option.bind (f_X12_takesWord K R o 3197529 5 I15) fun q16 =>
    Option.bind (if q16.1 &&& 1 = q16.1 then some q16.1 else none) fun v18 =>
    some (v18, q16.2)
  else
  if q13 = 100 then
    Option.bind (stI K I (R o 7) x1 2) fun I21 =>
    Option.bind (f_X12_takesWord K R o 4793803 5 I21) fun q22 =>
    Option.bind (if q22.1 &&& 1 = q22.1 then some q22.1 else none) fun v24 =>
    some (v24, q22.2)
  else
  if q13 = 108 then
    Option.bind (stI K I (R o 7) x1 4) fun I27 =>
    Option.bind (f_X12_takesWord K R o 408612 4 I27) fun q28 =>
    Option.bind (if q28.1 &&& 1 = q28.1 then some q28.1 else none) fun v30 =>
    some (v30, q28.2)
  else
  if q13 = 119 then
    if q11 = 97 then
      f_X12_takesHead_68 K R o q11 (R o 7) x1 1 I
    else
      f_X12_takesHead_68 K R o q11 (R o 7) x1 0 I
  else
  Option.bind (stI K I (R o 7) x1 5) fun I35 =>
  Option.bind (f_X12_takesWord K R o 20579780 5 I35) fun q36 =>
  Option.bind (if q36.1 &&& 1 = q36.1 then some q36.1 else none) fun v38 =>
  some (v38, q36.2)
def f_X12_takesClause_24 (K : Sh) (R : Rf) (o : Nat)  (x1 : Int32) (s0 : Option Nat) (s1 : Int32) (I : Im) : Option (Int32 × Im) :=
  Option.bind (ob K 13 s0) fun a1 =>
  Option.bind (f_X12_takesNumber K R a1 s1 I) fun q3 =>
  if q3.1 = 0 then
    some (0, q3.2)
  else
    Option.bind (stI K q3.2 (R o 8) x1 (q3.2 o 4)) fun I5 =>
    Option.bind (ldI K I5 (R o 7) x1) fun v6 =>
    if v6 = 2 then
      Option.bind (f_X12_takes K R o 32 I5) fun q16 =>
      if q16.1 = 0 then
        some (0, q16.2)
      else
        Option.bind (f_X12_takesE K R o x1 q16.2) fun q18 =>
        if q18.1 = 0 then
          some (0, q18.2)
        else
          some (1, q18.2)
    else
      Option.bind (ldI K I5 (R o 7) x1) fun v7 =>
      if v7 = 0 then
        Option.bind (f_X12_takes K R o 32 I5) fun q8 =>
        if q8.1 = 0 then
          some (0, q8.2)
        else
          Option.bind (f_X12_takesNumber K R o 2 q8.2) fun q10 =>
          if q10.1 = 0 then
            some (0, q10.2)
          else
            Option.bind (stI K q10.2 (R o 9) x1 (q10.2 o 4)) fun I12 =>
            some (1, I12)
      else
        some (1, I5)
def f_X12_takesClause (K : Sh) (R : Rf) (o : Nat)  (x1 : Int32) (I : Im) : Option (Int32 × Im) :=
  Option.bind (f_X12_takesHead K R o x1 I) fun q24 =>
  if q24.1 = 0 then
    some (0, q24.2)
  else
    Option.bind (ldI K q24.2 (R o 7) x1) fun v26 =>
    if v26 = 1 then
      f_X12_takesClause_24 K R o x1 (some o) 1 q24.2
    else
      f_X12_takesClause_24 K R o x1 (some o) 2 q24.2
def f_X12_goesText_15 (K : Sh) (R : Rf) (o : Nat)  : Nat → Int32 → Int32 → Im → Option (Int32 × Im)
  | 0, _, _, _ => none
  | k + 1, x1, x2, I =>
    Option.bind (f_X12_takesClause K R o ((12 * x1) + x2) I) fun q1 =>
    if q1.1 = 0 then
      some (0, q1.2)
    else
      Option.bind (stI K q1.2 (R o 6) x1 (x2 + 1)) fun I3 =>
      if (I3 o 3) = (I3 o 2) then
        some (1, I3)
      else
        if x2 + 1 = 12 then
          some (0, I3)
        else
          Option.bind (f_X12_takes K R o 59 I3) fun q4 =>
          if q4.1 = 0 then
            some (0, q4.2)
          else
            f_X12_goesText_15 K R o k x1 (x2 + 1) q4.2
def f_X12_goesText (K : Sh) (R : Rf) (o : Nat)  (x1 : Int32) (I : Im) : Option (Int32 × Im) :=
  Option.bind (some (u2 I o 3 0)) fun I10 =>
  Option.bind (some (u2 I10 o 14 (100 * x1))) fun I11 =>
  f_X12_goesText_15 K R o FU x1 0 I11
def f_X12_first (K : Sh) (I : Im) (o : Nat)   : Option (Int32) :=
  if 0 ≤ (I o 1) then
    some (12 * (I o 1))
  else
    some 0
def f_X12_behind (K : Sh) (I : Im) (R : Rf) (o : Nat)   : Option (Int32) :=
  if 0 ≤ (I o 1) then
    Option.bind (ldI K I (R o 6) (I o 1)) fun v1 =>
    some ((12 * (I o 1)) + v1)
  else
    some 0
def f_X12_lay_139 (K : Sh) (R : Rf) (o : Nat) (r33 : Int32 → Int32 → Im → Option (Im)) (x1 : Int32) (x2 : Int32) (s0 : Option Nat) (s1 : Int32) (s2 : Int32) (I : Im) : Option (Im) :=
  Option.bind (stI K I s0 s1 s2) fun I1 =>
  r33 (x1 + 1) (x2 + 1) I1
def f_X12_lay_98 (K : Sh) (R : Rf) (o : Nat) (r33 : Int32 → Int32 → Im → Option (Im)) (x1 : Int32) (x2 : Int32) (I : Im) : Option (Im) :=
  Option.bind (ldI K I (R o 7) x2) fun v2 =>
  if v2 = 1 then
    if 6 ≤ x1 then
      r33 x1 (x2 + 1) I
    else
      Option.bind (ldI K I (R o 8) x2) fun v3 =>
      if 1 ≤ v3 then
        Option.bind (ldI K I (R o 8) x2) fun v4 =>
        f_X12_lay_139 K R o r33 x1 x2 (R o 24) x1 v4 I
      else
        f_X12_lay_139 K R o r33 x1 x2 (R o 24) x1 1 I
  else
    r33 x1 (x2 + 1) I
def f_X12_lay_151 (K : Sh) (R : Rf) (o : Nat)  : Nat → Int32 → Im → Option (Im)
  | 0, _, _ => none
  | k + 1, x2, I =>
    if (I o 21) ≤ x2 then
      some I
    else
      Option.bind (ldI K I (R o 18) x2) fun v8 =>
      Option.bind (stI K I (R o 25) x2 v8) fun I9 =>
      Option.bind (ldI K I9 (R o 19) x2) fun v10 =>
      Option.bind (stI K I9 (R o 26) x2 v10) fun I11 =>
      f_X12_lay_151 K R o k (x2 + 1) I11
def f_X12_lay_33 (K : Sh) (R : Rf) (o : Nat)  : Nat → Int32 → Int32 → Im → Option (Im)
  | 0, _, _, _ => none
  | k + 1, x1, x2, I =>
    Option.bind (f_X12_behind K I R o) fun q13 =>
    if q13 ≤ x2 then
      f_X12_lay_151 K R o FU 0 I
    else
      Option.bind (ldI K I (R o 7) x2) fun v15 =>
      if v15 = 0 then
        if 5 ≤ (I o 21) then
          f_X12_lay_98 K R o (f_X12_lay_33 K R o k) x1 x2 I
        else
          Option.bind (ldI K I (R o 8) x2) fun v16 =>
          Option.bind (stI K I (R o 22) (I o 21) v16) fun I17 =>
          Option.bind (ldI K I17 (R o 9) x2) fun v18 =>
          Option.bind (stI K I17 (R o 23) (I17 o 21) v18) fun I19 =>
          Option.bind (some (u2 I19 o 21 ((I19 o 21) + 1))) fun I20 =>
          f_X12_lay_98 K R o (f_X12_lay_33 K R o k) x1 x2 I20
      else
        f_X12_lay_98 K R o (f_X12_lay_33 K R o k) x1 x2 I
def f_X12_lay_9 (K : Sh) (R : Rf) (o : Nat)  : Nat → Int32 → Int32 → Im → Option (Im)
  | 0, _, _, _ => none
  | k + 1, x1, x2, I =>
    if 7 ≤ x2 then
      Option.bind (f_X12_first K I o) fun q24 =>
      f_X12_lay_33 K R o FU x1 q24 I
    else
      Option.bind (stI K I (R o 24) x2 3) fun I26 =>
      f_X12_lay_9 K R o k x1 (x2 + 1) I26
def f_X12_lay (K : Sh) (R : Rf) (o : Nat)  (I : Im) : Option (Im) :=
  Option.bind (some (u2 I o 21 0)) fun I28 =>
  f_X12_lay_9 K R o FU 0 0 I28
def f_X12_fresh_6 (K : Sh) (R : Rf) (o : Nat)  : Nat → Int32 → Im → Option (Im)
  | 0, _, _ => none
  | k + 1, x1, I =>
    if (I o 21) ≤ x1 then
      some I
    else
      Option.bind (ldI K I (R o 22) x1) fun v1 =>
      Option.bind (stI K I (R o 18) x1 v1) fun I2 =>
      Option.bind (stI K I2 (R o 19) x1 0) fun I3 =>
      f_X12_fresh_6 K R o k (x1 + 1) I3
def f_X12_fresh (K : Sh) (R : Rf) (o : Nat)  (I : Im) : Option (Im) :=
  Option.bind (f_X12_lay K R o I) fun q5 =>
  f_X12_fresh_6 K R o FU 0 q5
def f_X12_waste (K : Sh) (R : Rf) (o : Nat)  (I : Im) : Option (Int32 × Im) :=
  if (I o 0) = 5 then
    some ((-4), I)
  else
    Option.bind (f_X12_goesText K R o (I o 0) I) fun q1 =>
    Option.bind (some (u2 q1.2 o 2 0)) fun I3 =>
    if q1.1 = 0 then
      some (((-10) - (I3 o 3)), I3)
    else
      Option.bind (some (u2 I3 o 1 (I3 o 0))) fun I4 =>
      Option.bind (some (u2 I4 o 0 ((I4 o 0) + 1))) fun I5 =>
      Option.bind (f_X12_fresh K R o I5) fun q6 =>
      some ((q6 o 1), q6)
def f_X12_last_39 (K : Sh) (I : Im) (R : Rf) (o : Nat) (r8 : Int32 → Int32 → Int32 → Option (Int32)) (x1 : Int32) (x4 : Int32) (s0 : Int32) : Option (Int32) :=
  r8 x1 s0 (x4 + 1)
def f_X12_last_8 (K : Sh) (I : Im) (R : Rf) (o : Nat)  : Nat → Int32 → Int32 → Int32 → Option (Int32)
  | 0, _, _, _ => none
  | k + 1, x1, x3, x4 =>
    Option.bind (f_X12_behind K I R o) fun q1 =>
    if q1 ≤ x4 then
      some x3
    else
      Option.bind (ldI K I (R o 7) x4) fun v3 =>
      if v3 = x1 then
        Option.bind (ldI K I (R o 8) x4) fun v4 =>
        f_X12_last_39 K I R o (f_X12_last_8 K I R o k) x1 x4 v4
      else
        f_X12_last_39 K I R o (f_X12_last_8 K I R o k) x1 x4 x3
def f_X12_last (K : Sh) (I : Im) (R : Rf) (o : Nat)  (x1 : Int32) (x2 : Int32) : Option (Int32) :=
  Option.bind (f_X12_first K I o) fun q7 =>
  f_X12_last_8 K I R o FU x1 x2 q7
def f_X12_holdsTest_147 (K : Sh) (R : Rf) (o : Nat) (r11 : Int32 → Int32 → Int32 → Int32 → Int32 → Int32 → Im → Option (Int32 × Im)) (x1 : Int32) (x2 : Int32) (x3 : Int32) (x4 : Int32) (x5 : Int32) (x6 : Int32) (s0 : Option Nat) (s1 : Int32) (s2 : Int32) (I : Im) : Option (Int32 × Im) :=
  Option.bind (stZ K I s0 s1 s2) fun I1 =>
  r11 x1 x2 x3 x4 x5 (x6 + 1) I1
def f_X12_holdsTest_142 (K : Sh) (R : Rf) (o : Nat) (r11 : Int32 → Int32 → Int32 → Int32 → Int32 → Int32 → Im → Option (Int32 × Im)) (x1 : Int32) (x2 : Int32) (x3 : Int32) (x4 : Int32) (x5 : Int32) (x6 : Int32) (s0 : Option Nat) (s1 : Int32) (I : Im) : Option (Int32 × Im) :=
  f_X12_holdsTest_147 K R o r11 x1 x2 x3 x4 x5 x6 s0 s1 1 I
def f_X12_holdsTest_116 (K : Sh) (R : Rf) (o : Nat) (r11 : Int32 → Int32 → Int32 → Int32 → Int32 → Int32 → Im → Option (Int32 × Im)) (x1 : Int32) (x2 : Int32) (x3 : Int32) (x4 : Int32) (x5 : Int32) (x6 : Int32) (s0 : Option Nat) (s1 : Int32) (I : Im) : Option (Int32 × Im) :=
  f_X12_holdsTest_147 K R o r11 x1 x2 x3 x4 x5 x6 s0 s1 0 I
def f_X12_holdsTest_260 (K : Sh) (R : Rf) (o : Nat) (r11 : Int32 → Int32 → Int32 → Int32 → Int32 → Int32 → Im → Option (Int32 × Im)) (x1 : Int32) (x2 : Int32) (x3 : Int32) (x4 : Int32) (x5 : Int32) (x6 : Int32) (s0 : Option Nat) (s1 : Int32) (s2 : Int32) (I : Im) : Option (Int32 × Im) :=
  Option.bind (stZ K I s0 s1 s2) fun I2 =>
  r11 x1 x2 x3 x4 (x5 + 1) (x6 + 1) I2
def f_X12_holdsTest_180 (K : Sh) (R : Rf) (o : Nat) (r11 : Int32 → Int32 → Int32 → Int32 → Int32 → Int32 → Im → Option (Int32 × Im)) (x1 : Int32) (x2 : Int32) (x3 : Int32) (x4 : Int32) (x5 : Int32) (x6 : Int32) (x7 : Int32) (s0 : Int32) (I : Im) : Option (Int32 × Im) :=
  if (irem (x7 / 100) 10) = 0 then
    if (irem x7 100) ≤ s0 then
      f_X12_holdsTest_260 K R o r11 x1 x2 x3 x4 x5 x6 (R o 17) x5 0 I
    else
      f_X12_holdsTest_260 K R o r11 x1 x2 x3 x4 x5 x6 (R o 17) x5 1 I
  else
    if (irem (x7 / 100) 10) = 1 then
      if s0 = (irem x7 100) then
        f_X12_holdsTest_260 K R o r11 x1 x2 x3 x4 x5 x6 (R o 17) x5 1 I
      else
        f_X12_holdsTest_260 K R o r11 x1 x2 x3 x4 x5 x6 (R o 17) x5 0 I
    else
      if s0 ≤ (irem x7 100) then
        f_X12_holdsTest_260 K R o r11 x1 x2 x3 x4 x5 x6 (R o 17) x5 0 I
      else
        f_X12_holdsTest_260 K R o r11 x1 x2 x3 x4 x5 x6 (R o 17) x5 1 I
def f_X12_holdsTest_63 (K : Sh) (R : Rf) (o : Nat) (r11 : Int32 → Int32 → Int32 → Int32 → Int32 → Int32 → Im → Option (Int32 × Im)) (x1 : Int32) (x2 : Int32) (x3 : Int32) (x4 : Int32) (x5 : Int32) (x6 : Int32) (s0 : Option Nat) (s1 : Int32) (s2 : Int32) (I : Im) : Option (Int32 × Im) :=
  Option.bind (stZ K I s0 s1 s2) fun I8 =>
  r11 x1 x2 x3 x4 x5 (x6 + 1) I8
def f_X12_holdsTest_11 (K : Sh) (R : Rf) (o : Nat)  : Nat → Int32 → Int32 → Int32 → Int32 → Int32 → Int32 → Im → Option (Int32 × Im)
  | 0, _, _, _, _, _, _, _ => none
  | k + 1, x1, x2, x3, x4, x5, x6, I =>
    Option.bind (ldI K I (R o 11) x1) fun v9 =>
    if v9 ≤ x6 then
      Option.bind (ldZ K I (R o 17) 0) fun v10 =>
      Option.bind (if v10 &&& 1 = v10 then some v10 else none) fun v11 =>
      some (v11, I)
    else
      Option.bind (ldI K I (R o 12) x6) fun v13 =>
      if v13 = (-33) then
        Option.bind (ldZ K I (R o 17) (x5 - 1)) fun v26 =>
        if v26 = 0 then
          f_X12_holdsTest_63 K R o (f_X12_holdsTest_11 K R o k) x1 x2 x3 x4 x5 x6 (R o 17) (x5 - 1) 1 I
        else
          f_X12_holdsTest_63 K R o (f_X12_holdsTest_11 K R o k) x1 x2 x3 x4 x5 x6 (R o 17) (x5 - 1) 0 I
      else
        if 0 ≤ v13 then
          if 1000 ≤ v13 then
            if 2000 ≤ v13 then
              f_X12_holdsTest_180 K R o (f_X12_holdsTest_11 K R o k) x1 x2 x3 x4 x5 x6 v13 x4 I
            else
              f_X12_holdsTest_180 K R o (f_X12_holdsTest_11 K R o k) x1 x2 x3 x4 x5 x6 v13 x3 I
          else
            f_X12_holdsTest_180 K R o (f_X12_holdsTest_11 K R o k) x1 x2 x3 x4 x5 x6 v13 (irem x2 24) I
        else
          if v13 = (-38) then
            Option.bind (ldZ K I (R o 17) (x5 - 1 - 1)) fun v20 =>
            if v20 = 0 then
              f_X12_holdsTest_116 K R o (f_X12_holdsTest_11 K R o k) x1 x2 x3 x4 (x5 - 1) x6 (R o 17) (x5 - 1 - 1) I
            else
              Option.bind (ldZ K I (R o 17) (x5 - 1)) fun v21 =>
              if v21 = 0 then
                f_X12_holdsTest_116 K R o (f_X12_holdsTest_11 K R o k) x1 x2 x3 x4 (x5 - 1) x6 (R o 17) (x5 - 1 - 1) I
              else
                f_X12_holdsTest_147 K R o (f_X12_holdsTest_11 K R o k) x1 x2 x3 x4 (x5 - 1) x6 (R o 17) (x5 - 1 - 1) 1 I
          else
            Option.bind (ldZ K I (R o 17) (x5 - 1 - 1)) fun v16 =>
            if v16 = 0 then
              Option.bind (ldZ K I (R o 17) (x5 - 1)) fun v17 =>
              if v17 = 0 then
                f_X12_holdsTest_147 K R o (f_X12_holdsTest_11 K R o k) x1 x2 x3 x4 (x5 - 1) x6 (R o 17) (x5 - 1 - 1) 0 I
              else
                f_X12_holdsTest_142 K R o (f_X12_holdsTest_11 K R o k) x1 x2 x3 x4 (x5 - 1) x6 (R o 17) (x5 - 1 - 1) I
            else
              f_X12_holdsTest_142 K R o (f_X12_holdsTest_11 K R o k) x1 x2 x3 x4 (x5 - 1) x6 (R o 17) (x5 - 1 - 1) I
def f_X12_holdsTest (K : Sh) (R : Rf) (o : Nat)  (x1 : Int32) (x2 : Int32) (x3 : Int32) (x4 : Int32) (I : Im) : Option (Int32 × Im) :=
  Option.bind (ldI K I (R o 10) x1) fun v30 =>
  f_X12_holdsTest_11 K R o FU x1 x2 x3 x4 0 v30 I
def f_X12_drinksOf_54 (K : Sh) (R : Rf) (o : Nat) (r9 : Int32 → Int32 → Int32 → Int32 → Int32 → Im → Option (Int32 × Im)) (x1 : Int32) (x2 : Int32) (x3 : Int32) (x5 : Int32) (s0 : Int32) (s1 : Int32) (I : Im) : Option (Int32 × Im) :=
  r9 x1 x2 x3 (s0 + s1) (x5 + 1) I
def f_X12_drinksOf_53 (K : Sh) (R : Rf) (o : Nat) (r9 : Int32 → Int32 → Int32 → Int32 → Int32 → Im → Option (Int32 × Im)) (x1 : Int32) (x2 : Int32) (x3 : Int32) (x5 : Int32) (s0 : Int32) (I : Im) : Option (Int32 × Im) :=
  f_X12_drinksOf_54 K R o r9 x1 x2 x3 x5 s0 0 I
def f_X12_drinksOf_9 (K : Sh) (R : Rf) (o : Nat)  : Nat → Int32 → Int32 → Int32 → Int32 → Int32 → Im → Option (Int32 × Im)
  | 0, _, _, _, _, _, _ => none
  | k + 1, x1, x2, x3, x4, x5, I =>
    Option.bind (f_X12_behind K I R o) fun q1 =>
    if q1 ≤ x5 then
      some (x4, I)
    else
      Option.bind (ldI K I (R o 7) x5) fun v3 =>
      if v3 = 2 then
        Option.bind (f_X12_holdsTest K R o x5 x2 x3 x1 I) fun q4 =>
        if q4.1 = 0 then
          f_X12_drinksOf_53 K R o (f_X12_drinksOf_9 K R o k) x1 x2 x3 x5 x4 q4.2
        else
          Option.bind (ldI K q4.2 (R o 8) x5) fun v6 =>
          f_X12_drinksOf_54 K R o (f_X12_drinksOf_9 K R o k) x1 x2 x3 x5 x4 v6 q4.2
      else
        f_X12_drinksOf_53 K R o (f_X12_drinksOf_9 K R o k) x1 x2 x3 x5 x4 I
def f_X12_drinksOf (K : Sh) (R : Rf) (o : Nat)  (x1 : Int32) (x2 : Int32) (x3 : Int32) (I : Im) : Option (Int32 × Im) :=
  Option.bind (f_X12_first K I o) fun q10 =>
  f_X12_drinksOf_9 K R o FU x1 x2 x3 0 q10 I
def f_X12_heldBy (K : Sh) (I : Im) (R : Rf) (o : Nat)  (x1 : Int32) (x2 : Int32) : Option (Int32) :=
  Option.bind (ldI K I (R o 26) x1) fun v1 =>
  if v1 < x2 then
    Option.bind (ldI K I (R o 22) x1) fun v2 =>
    Option.bind (ldI K I (R o 25) x1) fun v3 =>
    Option.bind (ldI K I (R o 23) x1) fun v4 =>
    Option.bind (ldI K I (R o 26) x1) fun v5 =>
    Option.bind (f_X12_min o v2 (v3 + (v4 * (x2 - v5)))) fun q6 =>
    some q6
  else
    Option.bind (ldI K I (R o 25) x1) fun v8 =>
    some v8
def f_X12_isTold (K : Sh) (o : Nat)  (x1 : Int32) : Option (Int32) :=
  Option.bind (f_X12_in o x1 0 3) fun q1 =>
  if q1 = 0 then
    Option.bind (f_X12_in o x1 10 14) fun q3 =>
    if q3 = 0 then
      Option.bind (f_X12_in o x1 20 24) fun q5 =>
      if q5 = 0 then
        Option.bind (f_X12_in o x1 30 35) fun q7 =>
        if q7 = 0 then
          some 0
        else
          some 1
      else
        some 1
    else
      some 1
  else
    some 1
def f_X12_of (K : Sh) (R : Rf) (o : Nat)  (x1 : Int32) (I : Im) : Option (Int32 × Im) :=
  Option.bind (f_X12_isTold K o x1) fun q1 =>
  if q1 = 0 then
    some ((-1), I)
  else
    if 0 ≤ (I o 1) then
      Option.bind (f_X12_lay K R o I) fun q3 =>
      if x1 = 0 then
        some ((q3 o 21), q3)
      else
        if 4 ≤ x1 then
          if x1 < 30 then
            if (irem x1 10) < (q3 o 21) then
              if 20 ≤ x1 then
                Option.bind (ldI K q3 (R o 23) (irem x1 10)) fun v5 =>
                some (v5, q3)
              else
                Option.bind (ldI K q3 (R o 22) (irem x1 10)) fun v6 =>
                some (v6, q3)
            else
              some ((-1), q3)
          else
            if (q3 o 21) < (irem x1 10) then
              some ((-1), q3)
            else
              Option.bind (ldI K q3 (R o 24) (irem x1 10)) fun v9 =>
              some (v9, q3)
        else
          if x1 = 1 then
            Option.bind (f_X12_last K q3 R o 3 10) fun q17 =>
            some (q17, q3)
          else
            if x1 = 2 then
              Option.bind (f_X12_last K q3 R o 4 1) fun q14 =>
              some (q14, q3)
            else
              Option.bind (f_X12_last K q3 R o 5 0) fun q12 =>
              some (q12, q3)
    else
      some ((-3), I)
def f_X12_isHour (K : Sh) (o : Nat)  (x1 : Int32) : Option (Int32) :=
  Option.bind (f_X12_in o x1 0 999) fun q1 =>
  Option.bind (if q1 &&& 1 = q1 then some q1 else none) fun v3 =>
  some v3
def f_X12_holds (K : Sh) (R : Rf) (o : Nat)  (x1 : Int32) (x2 : Int32) (I : Im) : Option (Int32 × Im) :=
  Option.bind (f_X12_in o x1 0 4) fun q1 =>
  if q1 = 0 then
    some ((-1), I)
  else
    Option.bind (f_X12_isHour K o x2) fun q3 =>
    if q3 = 0 then
      some ((-2), I)
    else
      if 0 ≤ (I o 1) then
        Option.bind (f_X12_lay K R o I) fun q5 =>
        if (q5 o 21) ≤ x1 then
          some ((-1), q5)
        else
          Option.bind (f_X12_heldBy K q5 R o x1 x2) fun q7 =>
          some (q7, q5)
      else
        some ((-3), I)
def f_X12_drinks (K : Sh) (R : Rf) (o : Nat)  (x1 : Int32) (x2 : Int32) (x3 : Int32) (I : Im) : Option (Int32 × Im) :=
  Option.bind (f_X12_in o x1 0 5) fun q1 =>
  if q1 = 0 then
    some ((-1), I)
  else
    Option.bind (f_X12_isHour K o x2) fun q3 =>
    if q3 = 0 then
      some ((-2), I)
    else
      Option.bind (f_X12_in o x3 1 9) fun q5 =>
      if q5 = 0 then
        some ((-2), I)
      else
        if 0 ≤ (I o 1) then
          Option.bind (f_X12_lay K R o I) fun q7 =>
          if (q7 o 21) < x1 then
            some ((-1), q7)
          else
            Option.bind (f_X12_drinksOf K R o x1 x2 x3 q7) fun q9 =>
            some (q9.1, q9.2)
        else
          some ((-3), I)
def f_X12_odds (K : Sh) (R : Rf) (o : Nat)  (x1 : Int32) (x2 : Int32) (I : Im) : Option (Int32 × Im) :=
  Option.bind (f_X12_in o x1 0 4) fun q1 =>
  if q1 = 0 then
    some ((-1), I)
  else
    Option.bind (f_X12_in o x2 0 10) fun q3 =>
    if q3 = 0 then
      some ((-2), I)
    else
      Option.bind (ldI K I (R o 20) x1) fun v5 =>
      Option.bind (stI K I (R o 20) x1 x2) fun I6 =>
      some (v5, I6)
def f_X12_ever_29 (K : Sh) (R : Rf) (o : Nat)  : Nat → Int32 → Int32 → Int32 → Im → Option (Int32 × Im)
  | 0, _, _, _, _ => none
  | k + 1, x1, x2, x3, I =>
    if (I o 21) ≤ x3 then
      some (x2, I)
    else
      Option.bind (ldI K I (R o 22) x3) fun v1 =>
      Option.bind (ldI K I (R o 22) x3) fun v2 =>
      Option.bind (ldI K I (R o 23) x3) fun v3 =>
      Option.bind (f_X12_min o v2 v3) fun q4 =>
      f_X12_ever_29 K R o k x1 (x2 + (v1 + (x1 * q4))) (x3 + 1) I
def f_X12_ever (K : Sh) (R : Rf) (o : Nat)  (x1 : Int32) (I : Im) : Option (Int32 × Im) :=
  Option.bind (f_X12_isHour K o x1) fun q7 =>
  if q7 = 0 then
    some ((-2), I)
  else
    if 0 ≤ (I o 1) then
      Option.bind (f_X12_lay K R o I) fun q9 =>
      f_X12_ever_29 K R o FU x1 0 0 q9
    else
      some ((-3), I)
def f_X12_isRule (K : Sh) (I : Im) (o : Nat)  (x1 : Int32) : Option (Int32) :=
  Option.bind (f_X12_in o x1 0 ((I o 27) - 1)) fun q1 =>
  Option.bind (if q1 &&& 1 = q1 then some q1 else none) fun v3 =>
  some v3
def f_X12_isCaravan (K : Sh) (I : Im) (o : Nat)  (x1 : Int32) : Option (Int32) :=
  Option.bind (f_X12_in o x1 0 ((I o 28) - 1)) fun q1 =>
  Option.bind (if q1 &&& 1 = q1 then some q1 else none) fun v3 =>
  some v3
def f_X12_rule (K : Sh) (R : Rf) (o : Nat)  (x1 : Int32) (x2 : Int32) (I : Im) : Option (Int32 × Im) :=
  Option.bind (f_X12_in o x1 0 6) fun q1 =>
  if q1 = 0 then
    some ((-1), I)
  else
    Option.bind (f_X12_in o x2 0 6) fun q3 =>
    if q3 = 0 then
      some ((-2), I)
    else
      if (I o 27) = 10 then
        some ((-4), I)
      else
        Option.bind (stI K I (R o 30) (I o 27) x1) fun I5 =>
        Option.bind (stI K I5 (R o 31) (I5 o 27) x2) fun I6 =>
        Option.bind (stI K I6 (R o 32) (I6 o 27) 0) fun I7 =>
        Option.bind (some (u2 I7 o 27 ((I7 o 27) + 1))) fun I8 =>
        some (((I8 o 27) - 1), I8)
def f_X12_row (K : Sh) (R : Rf) (o : Nat)  (x1 : Int32) (x2 : Int32) (I : Im) : Option (Int32 × Im) :=
  Option.bind (f_X12_isRule K I o x1) fun q1 =>
  if q1 = 0 then
    some ((-1), I)
  else
    Option.bind (f_X12_in o x2 0 6) fun q3 =>
    if q3 = 0 then
      some ((-2), I)
    else
      Option.bind (ldI K I (R o 30) x1) fun v5 =>
      if v5 = 3 then
        Option.bind (ldI K I (R o 32) x1) fun v6 =>
        if v6 = 5 then
          some ((-4), I)
        else
          Option.bind (ldI K I (R o 32) x1) fun v7 =>
          Option.bind (stI K I (R o 33) ((5 * x1) + v7) x2) fun I8 =>
          Option.bind (ldI K I8 (R o 32) x1) fun v9 =>
          Option.bind (stI K I8 (R o 32) x1 (v9 + 1)) fun I10 =>
          Option.bind (ldI K I10 (R o 32) x1) fun v11 =>
          some (v11, I10)
      else
        some ((-3), I)
def f_X12_caravan (K : Sh) (R : Rf) (o : Nat)  (x1 : Int32) (x2 : Int32) (x3 : Int32) (I : Im) : Option (Int32 × Im) :=
  Option.bind (f_X12_isRule K I o x3) fun q1 =>
  if q1 = 0 then
    some ((-1), I)
  else
    Option.bind (f_X12_in o x1 1 9) fun q3 =>
    if q3 = 0 then
      some ((-2), I)
    else
      Option.bind (f_X12_in o x2 0 99) fun q5 =>
      if q5 = 0 then
        some ((-2), I)
      else
        if (I o 28) = 6 then
          some ((-4), I)
        else
          Option.bind (stI K I (R o 34) (I o 28) x1) fun I7 =>
          Option.bind (stI K I7 (R o 35) (I7 o 28) x2) fun I8 =>
          Option.bind (stI K I8 (R o 36) (I8 o 28) x3) fun I9 =>
          Option.bind (some (u2 I9 o 28 ((I9 o 28) + 1))) fun I10 =>
          some (((I10 o 28) - 1), I10)
def f_X12_hand (K : Sh) (R : Rf) (o : Nat)  (x1 : Int32) (I : Im) : Option (Int32 × Im) :=
  if x1 = (-1) then
    Option.bind (some (u2 I o 29 0)) fun I7 =>
    some (0, I7)
  else
    Option.bind (f_X12_in o x1 0 6) fun q1 =>
    if q1 = 0 then
      some ((-2), I)
    else
      if (I o 29) = 5 then
        some ((-4), I)
      else
        Option.bind (stI K I (R o 37) (I o 29) x1) fun I3 =>
        Option.bind (some (u2 I3 o 29 ((I3 o 29) + 1))) fun I4 =>
        some ((I4 o 29), I4)
def f_X12_layThirst_12 (K : Sh) (R : Rf) (o : Nat) (r2 : Int32 → Int32 → Im → Option (Im)) : Nat → Int32 → Int32 → Int32 → Im → Option (Im)
  | 0, _, _, _, _ => none
  | k + 1, x1, x2, x3, I =>
    if 24 ≤ x3 then
      r2 x1 (x2 + 1) I
    else
      Option.bind (f_X12_drinksOf K R o x2 x3 x1 I) fun q1 =>
      Option.bind (stI K q1.2 (R o 38) ((24 * x2) + x3) (x1 * q1.1)) fun I3 =>
      f_X12_layThirst_12 K R o r2 k x1 x2 (x3 + 1) I3
def f_X12_layThirst_2 (K : Sh) (R : Rf) (o : Nat)  : Nat → Int32 → Int32 → Im → Option (Im)
  | 0, _, _, _ => none
  | k + 1, x1, x2, I =>
    if (I o 21) < x2 then
      Option.bind (f_X12_last K I R o 5 0) fun q5 =>
      Option.bind (some (u2 I o 45 (x1 * q5))) fun I7 =>
      Option.bind (f_X12_last K I7 R o 3 10) fun q8 =>
      Option.bind (some (u2 I7 o 46 (x1 * q8))) fun I10 =>
      some I10
    else
      f_X12_layThirst_12 K R o (f_X12_layThirst_2 K R o k) FU x1 x2 0 I
def f_X12_layThirst (K : Sh) (R : Rf) (o : Nat)  (x1 : Int32) (I : Im) : Option (Im) :=
  f_X12_layThirst_2 K R o FU x1 0 I
def f_X12_goesWay_2 (K : Sh) (R : Rf) (o : Nat)  : Nat → Int32 → Int32 → Im → Option (Int32 × Im)
  | 0, _, _, _ => none
  | k + 1, x1, x2, I =>
    Option.bind (ldI K I (R o 24) x1) fun v1 =>
    if v1 ≤ x2 then
      some (1, I)
    else
      Option.bind (ldI K I (R o 38) ((24 * x1) + (irem (I o 47) 24))) fun v2 =>
      if v2 ≤ (I o 48) then
        Option.bind (some (u2 I o 48 ((I o 48) - v2))) fun I3 =>
        Option.bind (some (u2 I3 o 47 ((I3 o 47) + 1))) fun I4 =>
        f_X12_goesWay_2 K R o k x1 (x2 + 1) I4
      else
        some (0, I)
def f_X12_goesWay (K : Sh) (R : Rf) (o : Nat)  (x1 : Int32) (I : Im) : Option (Int32 × Im) :=
  f_X12_goesWay_2 K R o FU x1 0 I
def f_X12_standsFor (K : Sh) (o : Nat)  (x1 : Int32) (I : Im) : Option (Int32 × Im) :=
  if (x1 * (I o 45)) ≤ (I o 48) then
    Option.bind (some (u2 I o 48 ((I o 48) - (x1 * (I o 45))))) fun I1 =>
    Option.bind (some (u2 I1 o 47 ((I1 o 47) + x1))) fun I2 =>
    some (1, I2)
  else
    some (0, I)
def f_X12_waitsAt (K : Sh) (R : Rf) (o : Nat)  (x1 : Int32) (I : Im) : Option (Int32 × Im) :=
  Option.bind (ldI K I (R o 26) x1) fun v1 =>
  if v1 ≤ (I o 47) then
    some (1, I)
  else
    Option.bind (ldI K I (R o 26) x1) fun v2 =>
    Option.bind (f_X12_standsFor K o (v2 - (I o 47)) I) fun q3 =>
    if q3.1 = 0 then
      some (0, q3.2)
    else
      some (1, q3.2)
def f_X12_drawsAt (K : Sh) (R : Rf) (o : Nat)  (x1 : Int32) (x2 : Int32) (I : Im) : Option (Im) :=
  Option.bind (f_X12_heldBy K I R o x1 (I o 47)) fun q1 =>
  Option.bind (f_X12_min o q1 ((I o 46) - (I o 48))) fun q3 =>
  Option.bind (some (u2 I o 48 ((I o 48) + q3))) fun I5 =>
  if x2 = 0 then
    some I5
  else
    Option.bind (stI K I5 (R o 25) x1 (q1 - q3)) fun I6 =>
    Option.bind (stI K I6 (R o 26) x1 (I6 o 47)) fun I7 =>
    some I7
def f_X12_standOf_162 (K : Sh) (I : Im) (R : Rf) (o : Nat)  (x3 : Int32) (x4 : Int32) : Option (Int32) :=
  if x3 = 6 then
    if (I o 46) ≤ (2 * (I o 48)) then
      some x4
    else
      some 0
  else
    some x4
def f_X12_standOf_130 (K : Sh) (I : Im) (R : Rf) (o : Nat)  : Nat → Int32 → Int32 → Int32 → Option (Int32)
  | 0, _, _, _ => none
  | k + 1, x1, x3, x4 =>
    Option.bind (ldI K I (R o 31) x1) fun v3 =>
    if v3 ≤ x4 then
      f_X12_standOf_162 K I R o x3 x4
    else
      if 12 ≤ (irem ((I o 47) + x4) 24) then
        f_X12_standOf_162 K I R o x3 x4
      else
        f_X12_standOf_130 K I R o k x1 x3 (x4 + 1)
def f_X12_standOf_109 (K : Sh) (I : Im) (R : Rf) (o : Nat)  (x3 : Int32) (x4 : Int32) : Option (Int32) :=
  if x3 = 1 then
    some x4
  else
    Option.bind (f_X12_min o 6 (x4 + 1)) fun q6 =>
    some q6
def f_X12_standOf_68 (K : Sh) (I : Im) (R : Rf) (o : Nat)  : Nat → Int32 → Int32 → Int32 → Int32 → Option (Int32)
  | 0, _, _, _, _ => none
  | k + 1, x1, x2, x3, x4 =>
    Option.bind (ldI K I (R o 31) x1) fun v9 =>
    if v9 ≤ x4 then
      f_X12_standOf_109 K I R o x3 x4
    else
      Option.bind (f_X12_heldBy K I R o x2 ((I o 47) + x4)) fun q10 =>
      if ((I o 46) - (I o 48)) ≤ q10 then
        f_X12_standOf_109 K I R o x3 x4
      else
        f_X12_standOf_68 K I R o k x1 x2 x3 (x4 + 1)
def f_X12_standOf (K : Sh) (I : Im) (R : Rf) (o : Nat)  (x1 : Int32) (x2 : Int32) (x3 : Int32) : Option (Int32) :=
  if x3 = 7 then
    if (I o 29) ≤ x2 then
      some 0
    else
      Option.bind (ldI K I (R o 37) x2) fun v24 =>
      some v24
  else
    if x3 = 1 then
      f_X12_standOf_68 K I R o FU x1 x2 x3 0
    else
    if x3 = 2 then
      f_X12_standOf_130 K I R o FU x1 x3 0
    else
    if x3 = 3 then
      Option.bind (ldI K I (R o 32) x1) fun v16 =>
      if v16 ≤ x2 then
        some 0
      else
        Option.bind (ldI K I (R o 33) ((5 * x1) + x2)) fun v17 =>
        some v17
    else
    if x3 = 4 then
      f_X12_standOf_68 K I R o FU x1 x2 x3 0
    else
    if x3 = 5 then
      Option.bind (ldI K I (R o 41) x2) fun v21 =>
      some v21
    else
    if x3 = 6 then
      f_X12_standOf_130 K I R o FU x1 x3 0
    else
    some 0
def f_X12_findBest_258 (K : Sh) (R : Rf) (o : Nat) (r89 : Int32 → Int32 → Im → Option (Im)) : Nat → Int32 → Int32 → Int32 → Im → Option (Im)
  | 0, _, _, _, _ => none
  | k + 1, x2, x3, x5, I =>
    if (I o 21) ≤ x5 then
      r89 x2 x3 I
    else
      Option.bind (ldI K I (R o 42) x5) fun v1 =>
      Option.bind (stI K I (R o 41) x5 (v1 - 1)) fun I2 =>
      f_X12_findBest_258 K R o r89 k x2 x3 (x5 + 1) I2
def f_X12_findBest_250 (K : Sh) (R : Rf) (o : Nat) (r89 : Int32 → Int32 → Im → Option (Im)) (x3 : Int32) (I : Im) : Option (Im) :=
  f_X12_findBest_258 K R o r89 FU (I o 47) x3 0 I
def f_X12_findBest_89 (K : Sh) (R : Rf) (o : Nat)  : Nat → Int32 → Int32 → Im → Option (Im)
  | 0, _, _, _ => none
  | k + 1, x2, x3, I =>
    if x3 < 0 then
      some I
    else
      Option.bind (ldI K I (R o 42) x3) fun v4 =>
      if v4 ≤ 6 then
        Option.bind (ldI K I (R o 43) x3) fun v5 =>
        Option.bind (some (u2 I o 47 v5)) fun I6 =>
        Option.bind (ldI K I6 (R o 44) x3) fun v7 =>
        Option.bind (some (u2 I6 o 48 v7)) fun I8 =>
        Option.bind (ldI K I8 (R o 42) x3) fun v9 =>
        Option.bind (ldI K I8 (R o 42) x3) fun v10 =>
        Option.bind (stI K I8 (R o 42) x3 (v10 + 1)) fun I11 =>
        Option.bind (f_X12_standsFor K o v9 I11) fun q12 =>
        if q12.1 = 0 then
          f_X12_findBest_89 K R o k x2 x3 q12.2
        else
          Option.bind (f_X12_drawsAt K R o x3 0 q12.2) fun q14 =>
          Option.bind (f_X12_goesWay K R o (x3 + 1) q14) fun q16 =>
          if q16.1 = 0 then
            f_X12_findBest_89 K R o k x2 x3 q16.2
          else
            if (q16.2 o 21) ≤ (x3 + 1) then
              if x2 < 0 then
                f_X12_findBest_250 K R o (f_X12_findBest_89 K R o k) x3 q16.2
              else
                if (q16.2 o 47) < x2 then
                  f_X12_findBest_250 K R o (f_X12_findBest_89 K R o k) x3 q16.2
                else
                  f_X12_findBest_89 K R o k x2 x3 q16.2
            else
              Option.bind (f_X12_waitsAt K R o (x3 + 1) q16.2) fun q20 =>
              if q20.1 = 0 then
                f_X12_findBest_89 K R o k x2 x3 q20.2
              else
                Option.bind (stI K q20.2 (R o 43) (x3 + 1) (q20.2 o 47)) fun I22 =>
                Option.bind (stI K I22 (R o 44) (x3 + 1) (I22 o 48)) fun I23 =>
                Option.bind (stI K I23 (R o 42) (x3 + 1) 0) fun I24 =>
                f_X12_findBest_89 K R o k x2 (x3 + 1) I24
      else
        f_X12_findBest_89 K R o k x2 (x3 - 1) I
def f_X12_findBest_2 (K : Sh) (R : Rf) (o : Nat)  : Nat → Int32 → Int32 → Im → Option (Im)
  | 0, _, _, _ => none
  | k + 1, x1, x2, I =>
    if 6 ≤ x2 then
      Option.bind (some (u2 I o 47 x1)) fun I31 =>
      Option.bind (some (u2 I31 o 48 (I31 o 46))) fun I32 =>
      if (I32 o 21) = 0 then
        some I32
      else
        Option.bind (f_X12_goesWay K R o 0 I32) fun q33 =>
        if q33.1 = 0 then
          some q33.2
        else
          Option.bind (f_X12_waitsAt K R o 0 q33.2) fun q35 =>
          if q35.1 = 0 then
            some q35.2
          else
            Option.bind (stI K q35.2 (R o 43) 0 (q35.2 o 47)) fun I37 =>
            Option.bind (stI K I37 (R o 44) 0 (I37 o 48)) fun I38 =>
            Option.bind (stI K I38 (R o 42) 0 0) fun I39 =>
            f_X12_findBest_89 K R o FU (-1) 0 I39
    else
      Option.bind (stI K I (R o 41) x2 0) fun I43 =>
      f_X12_findBest_2 K R o k x1 (x2 + 1) I43
def f_X12_findBest (K : Sh) (R : Rf) (o : Nat)  (x1 : Int32) (I : Im) : Option (Im) :=
  f_X12_findBest_2 K R o FU x1 0 I
def f_X12_go_78 (K : Sh) (R : Rf) (o : Nat)  : Nat → Int32 → Int32 → Int32 → Im → Option (Im)
  | 0, _, _, _, _ => none
  | k + 1, x3, x4, x5, I =>
    if (I o 21) ≤ x5 then
      Option.bind (f_X12_goesWay K R o (I o 21) I) fun q1 =>
      if q1.1 = 0 then
        Option.bind (some (u2 q1.2 o 49 (q1.2 o 21))) fun I3 =>
        some I3
      else
        Option.bind (some (u2 q1.2 o 50 (q1.2 o 47))) fun I4 =>
        some I4
    else
      Option.bind (f_X12_goesWay K R o x5 I) fun q6 =>
      if q6.1 = 0 then
        Option.bind (some (u2 q6.2 o 49 x5)) fun I23 =>
        some I23
      else
        Option.bind (stI K q6.2 (R o 40) x5 (q6.2 o 48)) fun I8 =>
        Option.bind (f_X12_waitsAt K R o x5 I8) fun q9 =>
        if q9.1 = 0 then
          Option.bind (some (u2 q9.2 o 49 (x5 + 1))) fun I21 =>
          some I21
        else
          Option.bind (f_X12_standOf K q9.2 R o x3 x5 x4) fun q11 =>
          Option.bind (stI K q9.2 (R o 39) x5 q11) fun I13 =>
          Option.bind (ldI K I13 (R o 39) x5) fun v14 =>
          Option.bind (f_X12_standsFor K o v14 I13) fun q15 =>
          if q15.1 = 0 then
            Option.bind (some (u2 q15.2 o 49 (x5 + 1))) fun I19 =>
            some I19
          else
            Option.bind (f_X12_drawsAt K R o x5 1 q15.2) fun q17 =>
            f_X12_go_78 K R o k x3 x4 (x5 + 1) q17
def f_X12_go_19 (K : Sh) (R : Rf) (o : Nat)  : Nat → Int32 → Int32 → Int32 → Int32 → Im → Option (Im)
  | 0, _, _, _, _, _ => none
  | k + 1, x2, x3, x4, x5, I =>
    if 6 ≤ x5 then
      Option.bind (some (u2 I o 47 x2)) fun I26 =>
      Option.bind (some (u2 I26 o 48 (I26 o 46))) fun I27 =>
      Option.bind (some (u2 I27 o 49 (-5))) fun I28 =>
      Option.bind (some (u2 I28 o 50 (-5))) fun I29 =>
      f_X12_go_78 K R o FU x3 x4 0 I29
    else
      Option.bind (stI K I (R o 39) x5 (-5)) fun I30 =>
      Option.bind (stI K I30 (R o 40) x5 (-5)) fun I31 =>
      f_X12_go_19 K R o k x2 x3 x4 (x5 + 1) I31
def f_X12_go (K : Sh) (R : Rf) (o : Nat)  (x1 : Int32) (x2 : Int32) (x3 : Int32) (x4 : Int32) (I : Im) : Option (Im) :=
  Option.bind (f_X12_layThirst K R o x1 I) fun q33 =>
  if x4 = 5 then
    Option.bind (f_X12_findBest K R o x2 q33) fun q35 =>
    f_X12_go_19 K R o FU x2 x3 x4 0 q35
  else
    f_X12_go_19 K R o FU x2 x3 x4 0 q33
def f_X12_goCaravan (K : Sh) (R : Rf) (o : Nat)  (x1 : Int32) (I : Im) : Option (Im) :=
  Option.bind (ldI K I (R o 34) x1) fun v1 =>
  Option.bind (ldI K I (R o 35) x1) fun v2 =>
  Option.bind (ldI K I (R o 36) x1) fun v3 =>
  Option.bind (ldI K I (R o 36) x1) fun v4 =>
  Option.bind (ldI K I (R o 30) v4) fun v5 =>
  Option.bind (f_X12_go K R o v1 v2 v3 v5 I) fun q6 =>
  some q6
def f_X12_isAsked (K : Sh) (o : Nat)  (x1 : Int32) : Option (Int32) :=
  Option.bind (f_X12_in o x1 0 2) fun q1 =>
  if q1 = 0 then
    Option.bind (f_X12_in o x1 10 14) fun q3 =>
    if q3 = 0 then
      Option.bind (f_X12_in o x1 20 24) fun q5 =>
      if q5 = 0 then
        some 0
      else
        some 1
    else
      some 1
  else
    some 1
def f_X12_toldOf_19 (K : Sh) (I : Im) (R : Rf) (o : Nat)  (x1 : Int32) (x2 : Int32) : Option (Int32) :=
  if x2 ≤ 19 then
    if x2 ≤ 9 then
      if x2 = 0 then
        some (I o 50)
      else
        if x2 = 1 then
          some (I o 49)
        else
          if 0 ≤ (I o 50) then
            Option.bind (ldI K I (R o 34) x1) fun v1 =>
            Option.bind (f_X12_last K I R o 4 1) fun q2 =>
            some (v1 * q2)
          else
            some 0
    else
      Option.bind (ldI K I (R o 39) (x2 - 10)) fun v7 =>
      some v7
  else
    Option.bind (ldI K I (R o 40) (x2 - 20)) fun v9 =>
    some v9
def f_X12_toldOf (K : Sh) (I : Im) (R : Rf) (o : Nat)  (x1 : Int32) (x2 : Int32) : Option (Int32) :=
  if x2 ≤ 9 then
    f_X12_toldOf_19 K I R o x1 x2
  else
    if (irem x2 10) < (I o 21) then
      f_X12_toldOf_19 K I R o x1 x2
    else
      some (-1)
def f_X12_would (K : Sh) (R : Rf) (o : Nat)  (x1 : Int32) (x2 : Int32) (I : Im) : Option (Int32 × Im) :=
  Option.bind (f_X12_isCaravan K I o x1) fun q1 =>
  if q1 = 0 then
    some ((-1), I)
  else
    Option.bind (f_X12_isAsked K o x2) fun q3 =>
    if q3 = 0 then
      some ((-1), I)
    else
      if 0 ≤ (I o 1) then
        Option.bind (f_X12_lay K R o I) fun q5 =>
        Option.bind (f_X12_goCaravan K R o x1 q5) fun q7 =>
        Option.bind (f_X12_toldOf K q7 R o x1 x2) fun q9 =>
        some (q9, q7)
      else
        some ((-3), I)
def f_X12_goes_31 (K : Sh) (R : Rf) (o : Nat)  : Nat → Int32 → Im → Option (Int32 × Im)
  | 0, _, _ => none
  | k + 1, x2, I =>
    if (I o 21) ≤ x2 then
      some ((I o 50), I)
    else
      Option.bind (ldI K I (R o 25) x2) fun v1 =>
      Option.bind (stI K I (R o 18) x2 v1) fun I2 =>
      Option.bind (ldI K I2 (R o 26) x2) fun v3 =>
      Option.bind (stI K I2 (R o 19) x2 v3) fun I4 =>
      f_X12_goes_31 K R o k (x2 + 1) I4
def f_X12_goes (K : Sh) (R : Rf) (o : Nat)  (x1 : Int32) (I : Im) : Option (Int32 × Im) :=
  Option.bind (f_X12_isCaravan K I o x1) fun q6 =>
  if q6 = 0 then
    some ((-1), I)
  else
    if 0 ≤ (I o 1) then
      Option.bind (f_X12_lay K R o I) fun q8 =>
      Option.bind (f_X12_goCaravan K R o x1 q8) fun q10 =>
      f_X12_goes_31 K R o FU 0 q10
    else
      some ((-3), I)
def f_X12_gone (K : Sh) (R : Rf) (o : Nat)  (x1 : Int32) (x2 : Int32) (I : Im) : Option (Int32 × Im) :=
  Option.bind (f_X12_isCaravan K I o x1) fun q1 =>
  if q1 = 0 then
    some ((-1), I)
  else
    Option.bind (f_X12_isAsked K o x2) fun q3 =>
    if q3 = 0 then
      some ((-1), I)
    else
      if 0 ≤ (I o 1) then
        Option.bind (f_X12_lay K R o I) fun q5 =>
        Option.bind (ldI K q5 (R o 34) x1) fun v7 =>
        Option.bind (ldI K q5 (R o 35) x1) fun v8 =>
        Option.bind (f_X12_go K R o v7 v8 0 7 q5) fun q9 =>
        Option.bind (f_X12_toldOf K q9 R o x1 x2) fun q11 =>
        some (q11, q9)
      else
        some ((-3), I)
def f_X12_size_122 (K : Sh) (R : Rf) (o : Nat) (r56 : Int32 → Int32 → Int32 → Int32 → Int32 → Int32 → Int32 → Im → Option (Int32 × Im)) (x1 : Int32) (x2 : Int32) (x3 : Int32) (x4 : Int32) (x5 : Int32) (x6 : Int32) (x7 : Int32) (s0 : Int32) (I : Im) : Option (Int32 × Im) :=
  if x5 < s0 then
    r56 x1 x2 x3 x7 s0 x6 (x7 + 1) I
  else
    r56 x1 x2 x3 x4 x5 x6 (x7 + 1) I
def f_X12_size_100 (K : Sh) (R : Rf) (o : Nat) (r56 : Int32 → Int32 → Int32 → Int32 → Int32 → Int32 → Int32 → Im → Option (Int32 × Im)) (x1 : Int32) (x2 : Int32) (x3 : Int32) (x4 : Int32) (x5 : Int32) (x7 : Int32) (s0 : Int32) (I : Im) : Option (Int32 × Im) :=
  if 0 ≤ (I o 50) then
    Option.bind (f_X12_last K I R o 4 1) fun q2 =>
    f_X12_size_122 K R o r56 x1 x2 x3 x4 x5 s0 x7 (x7 * q2) I
  else
    f_X12_size_122 K R o r56 x1 x2 x3 x4 x5 s0 x7 (-1) I
def f_X12_size_98 (K : Sh) (R : Rf) (o : Nat) (r56 : Int32 → Int32 → Int32 → Int32 → Int32 → Int32 → Int32 → Im → Option (Int32 × Im)) (x1 : Int32) (x2 : Int32) (x3 : Int32) (x4 : Int32) (x5 : Int32) (x6 : Int32) (x7 : Int32) (I : Im) : Option (Int32 × Im) :=
  f_X12_size_100 K R o r56 x1 x2 x3 x4 x5 x7 x6 I
def f_X12_size_56 (K : Sh) (R : Rf) (o : Nat)  : Nat → Int32 → Int32 → Int32 → Int32 → Int32 → Int32 → Int32 → Im → Option (Int32 × Im)
  | 0, _, _, _, _, _, _, _, _ => none
  | k + 1, x1, x2, x3, x4, x5, x6, x7, I =>
    if 10 ≤ x7 then
      if x3 = 0 then
        some (x4, I)
      else
        some (x6, I)
    else
      Option.bind (f_X12_lay K R o I) fun q6 =>
      Option.bind (ldI K q6 (R o 30) x2) fun v8 =>
      Option.bind (f_X12_go K R o x7 x1 x2 v8 q6) fun q9 =>
      if 0 ≤ (q9 o 50) then
        f_X12_size_98 K R o (f_X12_size_56 K R o k) x1 x2 x3 x4 x5 x6 x7 q9
      else
        if x6 = 0 then
          f_X12_size_100 K R o (f_X12_size_56 K R o k) x1 x2 x3 x4 x5 x7 x7 q9
        else
          f_X12_size_98 K R o (f_X12_size_56 K R o k) x1 x2 x3 x4 x5 x6 x7 q9
def f_X12_size (K : Sh) (R : Rf) (o : Nat)  (x1 : Int32) (x2 : Int32) (x3 : Int32) (I : Im) : Option (Int32 × Im) :=
  Option.bind (f_X12_isRule K I o x2) fun q14 =>
  if q14 = 0 then
    some ((-1), I)
  else
    Option.bind (f_X12_in o x3 0 1) fun q16 =>
    if q16 = 0 then
      some ((-1), I)
    else
      Option.bind (f_X12_in o x1 0 99) fun q18 =>
      if q18 = 0 then
        some ((-2), I)
      else
        if 0 ≤ (I o 1) then
          f_X12_size_56 K R o FU x1 x2 x3 0 (-1) 0 1 I
        else
          some ((-3), I)
def f_X12_several (K : Sh) (R : Rf) (o : Nat)  (x1 : Int32) (I : Im) : Option (Int32 × Im) :=
  if x1 = (-1) then
    Option.bind (some (u2 I o 51 0)) fun I7 =>
    some (0, I7)
  else
    Option.bind (f_X12_isCaravan K I o x1) fun q1 =>
    if q1 = 0 then
      some ((-1), I)
    else
      if (I o 51) = 3 then
        some ((-4), I)
      else
        Option.bind (stI K I (R o 52) (I o 51) x1) fun I3 =>
        Option.bind (some (u2 I3 o 51 ((I3 o 51) + 1))) fun I4 =>
        some ((I4 o 51), I4)
def f_X12_goAll_108 (K : Sh) (R : Rf) (o : Nat) (r17 : Int32 → Im → Option (Im)) (x1 : Int32) (s0 : Option Nat) (s1 : Int32) (I : Im) : Option (Im) :=
  Option.bind (ob K 13 s0) fun a1 =>
  Option.bind (some (u2 I a1 57 s1)) fun I3 =>
  r17 (x1 + 1) I3
def f_X12_goAll_81 (K : Sh) (R : Rf) (o : Nat) (r17 : Int32 → Im → Option (Im)) (x1 : Int32) (s0 : Option Nat) (s1 : Int32) (s2 : Int32) (I : Im) : Option (Im) :=
  Option.bind (ob K 13 s0) fun a4 =>
  Option.bind (some (u2 I a4 56 (s1 + s2))) fun I6 =>
  if (I6 o 50) ≤ (I6 o 57) then
    f_X12_goAll_108 K R o r17 x1 (some o) (I6 o 57) I6
  else
    f_X12_goAll_108 K R o r17 x1 (some o) (I6 o 50) I6
def f_X12_goAll_17 (K : Sh) (R : Rf) (o : Nat)  : Nat → Int32 → Im → Option (Im)
  | 0, _, _ => none
  | k + 1, x1, I =>
    if (I o 51) ≤ x1 then
      some I
    else
      Option.bind (ldI K I (R o 54) x1) fun v8 =>
      Option.bind (ldI K I (R o 52) v8) fun v9 =>
      Option.bind (f_X12_goCaravan K R o v9 I) fun q10 =>
      Option.bind (stI K q10 (R o 53) x1 (q10 o 50)) fun I12 =>
      if 0 ≤ (I12 o 50) then
        Option.bind (ldI K I12 (R o 34) v9) fun v13 =>
        Option.bind (f_X12_last K I12 R o 4 1) fun q14 =>
        f_X12_goAll_81 K R o (f_X12_goAll_17 K R o k) x1 (some o) (I12 o 56) (v13 * q14) I12
      else
        f_X12_goAll_81 K R o (f_X12_goAll_17 K R o k) x1 (some o) (I12 o 56) 0 I12
def f_X12_goAll (K : Sh) (R : Rf) (o : Nat)  (I : Im) : Option (Im) :=
  Option.bind (f_X12_lay K R o I) fun q18 =>
  Option.bind (some (u2 q18 o 56 0)) fun I20 =>
  Option.bind (some (u2 I20 o 57 (-5))) fun I21 =>
  f_X12_goAll_17 K R o FU 0 I21
def f_X12_findOrder_148 (K : Sh) (R : Rf) (o : Nat) (r6 : Int32 → Int32 → Int32 → Im → Option (Int32 × Im)) : Nat → Int32 → Int32 → Int32 → Int32 → Im → Option (Int32 × Im)
  | 0, _, _, _, _, _ => none
  | k + 1, x1, x2, x3, x7, I =>
    if (I o 51) ≤ x7 then
      r6 x1 x2 (x3 + 1) I
    else
      Option.bind (ldI K I (R o 54) x7) fun v1 =>
      Option.bind (stI K I (R o 55) x7 v1) fun I2 =>
      f_X12_findOrder_148 K R o r6 k x1 x2 x3 (x7 + 1) I2
def f_X12_findOrder_137 (K : Sh) (R : Rf) (o : Nat) (r6 : Int32 → Int32 → Int32 → Im → Option (Int32 × Im)) (x3 : Int32) (x6 : Int32) (I : Im) : Option (Int32 × Im) :=
  f_X12_findOrder_148 K R o r6 FU (I o 56) x6 x3 0 I
def f_X12_findOrder_110 (K : Sh) (R : Rf) (o : Nat) (r6 : Int32 → Int32 → Int32 → Im → Option (Int32 × Im)) (x1 : Int32) (x2 : Int32) (x3 : Int32) (s0 : Int32) (I : Im) : Option (Int32 × Im) :=
  if (I o 56) < x1 then
    r6 x1 x2 (x3 + 1) I
  else
    if (I o 56) = x1 then
      if s0 < x2 then
        f_X12_findOrder_137 K R o r6 x3 s0 I
      else
        r6 x1 x2 (x3 + 1) I
    else
      f_X12_findOrder_137 K R o r6 x3 s0 I
def f_X12_findOrder_26 (K : Sh) (R : Rf) (o : Nat) (r6 : Int32 → Int32 → Int32 → Im → Option (Int32 × Im)) : Nat → Int32 → Int32 → Int32 → Int32 → Int32 → Int32 → Im → Option (Int32 × Im)
  | 0, _, _, _, _, _, _, _ => none
  | k + 1, x1, x2, x3, x4, x5, x6, I =>
    if x6 < 0 then
      if 0 < x4 then
        r6 x1 x2 (x3 + 1) I
      else
        if x5 = ((ishl 1 (I o 51)) - 1) then
          Option.bind (f_X12_goAll K R o I) fun q7 =>
          if 0 ≤ (q7 o 57) then
            f_X12_findOrder_110 K R o r6 x1 x2 x3 (q7 o 57) q7
          else
            f_X12_findOrder_110 K R o r6 x1 x2 x3 1000000 q7
        else
          r6 x1 x2 (x3 + 1) I
    else
      Option.bind (stI K I (R o 54) x6 (irem x4 3)) fun I12 =>
      Option.bind (ldI K I12 (R o 54) x6) fun v13 =>
      f_X12_findOrder_26 K R o r6 k x1 x2 x3 (x4 / 3) (x5 ||| (ishl 1 v13)) (x6 - 1) I12
def f_X12_findOrder_6 (K : Sh) (R : Rf) (o : Nat)  : Nat → Int32 → Int32 → Int32 → Im → Option (Int32 × Im)
  | 0, _, _, _, _ => none
  | k + 1, x1, x2, x3, I =>
    if 27 ≤ x3 then
      some (x1, I)
    else
      f_X12_findOrder_26 K R o (f_X12_findOrder_6 K R o k) FU x1 x2 x3 x3 0 ((I o 51) - 1) I
def f_X12_findOrder (K : Sh) (R : Rf) (o : Nat)  (I : Im) : Option (Int32 × Im) :=
  f_X12_findOrder_6 K R o FU (-1) 0 0 I
def f_X12_all_89 (K : Sh) (R : Rf) (o : Nat)  : Nat → Int32 → Int32 → Im → Option (Int32 × Im)
  | 0, _, _, _ => none
  | k + 1, x1, x2, I =>
    if 3 ≤ x2 then
      Option.bind (f_X12_goAll K R o I) fun q1 =>
      if x1 = 0 then
        some ((q1 o 56), q1)
      else
        if x1 = 1 then
          some ((q1 o 57), q1)
        else
          Option.bind (ldI K q1 (R o 53) (x1 - 10)) fun v3 =>
          some (v3, q1)
    else
      Option.bind (stI K I (R o 54) x2 x2) fun I6 =>
      f_X12_all_89 K R o k x1 (x2 + 1) I6
def f_X12_all_29 (K : Sh) (R : Rf) (o : Nat)  (x1 : Int32) (I : Im) : Option (Int32 × Im) :=
  if 0 ≤ (I o 1) then
    Option.bind (f_X12_in o x1 2 5) fun q8 =>
    if q8 = 0 then
      f_X12_all_89 K R o FU x1 0 I
    else
      Option.bind (f_X12_findOrder K R o I) fun q10 =>
      if x1 = 5 then
        some (q10.1, q10.2)
      else
        if (q10.2 o 51) ≤ (x1 - 2) then
          some ((-5), q10.2)
        else
          Option.bind (ldI K q10.2 (R o 55) (x1 - 2)) fun v12 =>
          some (v12, q10.2)
  else
    some ((-3), I)
def f_X12_all (K : Sh) (R : Rf) (o : Nat)  (x1 : Int32) (I : Im) : Option (Int32 × Im) :=
  Option.bind (f_X12_in o x1 0 5) fun q17 =>
  if q17 = 0 then
    Option.bind (f_X12_in o x1 10 (9 + (I o 51))) fun q19 =>
    if q19 = 0 then
      some ((-1), I)
    else
      f_X12_all_29 K R o x1 I
  else
    f_X12_all_29 K R o x1 I
def f_X12_divisor_6 (o : Nat)  : Nat → Int64 → Int64 → Option (Int64)
  | 0, _, _ => none
  | k + 1, x5, x7 =>
    if (lg_cmp x7 (0 : Int64)) = 0 then
      some x5
    else
      Option.bind (if x7 = 0 then none else some (lrem x5 x7)) fun v1 =>
      f_X12_divisor_6 o k x7 v1
def f_X12_divisor (o : Nat)  (x1 : Int64) (x3 : Int64) : Option (Int64) :=
  f_X12_divisor_6 o FU x1 x3
def f_X12_likely_249 (K : Sh) (R : Rf) (o : Nat) (r70 : Int32 → Int32 → Int32 → Int64 → Int64 → Int32 → Im → Option (Int64 × Im)) (x1 : Int32) (x2 : Int32) (x3 : Int32) (x6 : Int64) (x8 : Int32) (s0 : Int64) (s1 : Int64) (I : Im) : Option (Int64 × Im) :=
  r70 x1 x2 x3 (s0 + s1) x6 (x8 + 1) I
def f_X12_likely_212 (K : Sh) (R : Rf) (o : Nat) (r70 : Int32 → Int32 → Int32 → Int64 → Int64 → Int32 → Im → Option (Int64 × Im)) (r88 : Int32 → Int32 → Int32 → Int64 → Int64 → Int32 → Int64 → Int32 → Im → Option (Int64 × Im)) (x1 : Int32) (x2 : Int32) (x3 : Int32) (x4 : Int64) (x6 : Int64) (x8 : Int32) (x9 : Int64) (x11 : Int32) (s0 : Option Nat) (s1 : Int32) (s2 : Int32) (I : Im) : Option (Int64 × Im) :=
  Option.bind (stI K I s0 s1 s2) fun I1 =>
  r88 x1 x2 x3 x4 x6 x8 x9 (x11 + 1) I1
def f_X12_likely_189 (K : Sh) (R : Rf) (o : Nat) (r70 : Int32 → Int32 → Int32 → Int64 → Int64 → Int32 → Im → Option (Int64 × Im)) (r88 : Int32 → Int32 → Int32 → Int64 → Int64 → Int32 → Int64 → Int32 → Im → Option (Int64 × Im)) (x1 : Int32) (x2 : Int32) (x3 : Int32) (x4 : Int64) (x6 : Int64) (x8 : Int32) (x9 : Int64) (x11 : Int32) (x12 : Int32) (s0 : Option Nat) (s1 : Int32) (s2 : Int32) (I : Im) : Option (Int64 × Im) :=
  Option.bind (stI K I s0 s1 s2) fun I2 =>
  if x12 = 0 then
    Option.bind (ldI K I2 (R o 25) x11) fun v3 =>
    f_X12_likely_212 K R o r70 r88 x1 x2 x3 x4 x6 x8 x9 x11 (R o 25) x11 v3 I2
  else
    f_X12_likely_212 K R o r70 r88 x1 x2 x3 x4 x6 x8 x9 x11 (R o 25) x11 0 I2
def f_X12_likely_166 (K : Sh) (R : Rf) (o : Nat) (r70 : Int32 → Int32 → Int32 → Int64 → Int64 → Int32 → Im → Option (Int64 × Im)) (r88 : Int32 → Int32 → Int32 → Int64 → Int64 → Int32 → Int64 → Int32 → Im → Option (Int64 × Im)) (x1 : Int32) (x2 : Int32) (x3 : Int32) (x4 : Int64) (x6 : Int64) (x8 : Int32) (x9 : Int64) (x11 : Int32) (x12 : Int32) (s0 : Option Nat) (s1 : Int32) (s2 : Int32) (I : Im) : Option (Int64 × Im) :=
  Option.bind (stI K I s0 s1 s2) fun I5 =>
  if x12 = 0 then
    Option.bind (ldI K I5 (R o 23) x11) fun v6 =>
    f_X12_likely_189 K R o r70 r88 x1 x2 x3 x4 x6 x8 x9 x11 x12 (R o 23) x11 v6 I5
  else
    f_X12_likely_189 K R o r70 r88 x1 x2 x3 x4 x6 x8 x9 x11 x12 (R o 23) x11 0 I5
def f_X12_likely_141 (K : Sh) (R : Rf) (o : Nat) (r70 : Int32 → Int32 → Int32 → Int64 → Int64 → Int32 → Im → Option (Int64 × Im)) (r88 : Int32 → Int32 → Int32 → Int64 → Int64 → Int32 → Int64 → Int32 → Im → Option (Int64 × Im)) (x1 : Int32) (x2 : Int32) (x3 : Int32) (x4 : Int64) (x6 : Int64) (x8 : Int32) (x11 : Int32) (x12 : Int32) (s0 : Int64) (s1 : Int64) (I : Im) : Option (Int64 × Im) :=
  if x12 = 0 then
    Option.bind (ldI K I (R o 22) x11) fun v8 =>
    f_X12_likely_166 K R o r70 r88 x1 x2 x3 x4 x6 x8 (s0 * s1) x11 x12 (R o 22) x11 v8 I
  else
    f_X12_likely_166 K R o r70 r88 x1 x2 x3 x4 x6 x8 (s0 * s1) x11 x12 (R o 22) x11 0 I
def f_X12_likely_110 (K : Sh) (R : Rf) (o : Nat) (r70 : Int32 → Int32 → Int32 → Int64 → Int64 → Int32 → Im → Option (Int64 × Im)) (r88 : Int32 → Int32 → Int32 → Int64 → Int64 → Int32 → Int64 → Int32 → Im → Option (Int64 × Im)) (x1 : Int32) (x2 : Int32) (x3 : Int32) (x4 : Int64) (x6 : Int64) (x8 : Int32) (x9 : Int64) (x11 : Int32) (s0 : Int32) (I : Im) : Option (Int64 × Im) :=
  if s0 = 0 then
    Option.bind (ldI K I (R o 20) x11) fun v10 =>
    f_X12_likely_141 K R o r70 r88 x1 x2 x3 x4 x6 x8 x11 s0 x9 ((10 - v10).toInt64) I
  else
    Option.bind (ldI K I (R o 20) x11) fun v11 =>
    f_X12_likely_141 K R o r70 r88 x1 x2 x3 x4 x6 x8 x11 s0 x9 (v11.toInt64) I
def f_X12_likely_88 (K : Sh) (R : Rf) (o : Nat) (r70 : Int32 → Int32 → Int32 → Int64 → Int64 → Int32 → Im → Option (Int64 × Im)) : Nat → Int32 → Int32 → Int32 → Int64 → Int64 → Int32 → Int64 → Int32 → Im → Option (Int64 × Im)
  | 0, _, _, _, _, _, _, _, _, _ => none
  | k + 1, x1, x2, x3, x4, x6, x8, x9, x11, I =>
    if x3 ≤ x11 then
      if (lg_cmp x9 (0 : Int64)) = 0 then
        r70 x1 x2 x3 x4 x6 (x8 + 1) I
      else
        Option.bind (f_X12_goCaravan K R o x1 I) fun q13 =>
        if 0 ≤ (q13 o 50) then
          f_X12_likely_249 K R o r70 x1 x2 x3 x6 x8 x4 x9 q13
        else
          f_X12_likely_249 K R o r70 x1 x2 x3 x6 x8 x4 (0 : Int64) q13
    else
      if ((ishr x8 x11) &&& 1) = 1 then
        f_X12_likely_110 K R o r70 (f_X12_likely_88 K R o r70 k) x1 x2 x3 x4 x6 x8 x9 x11 1 I
      else
        f_X12_likely_110 K R o r70 (f_X12_likely_88 K R o r70 k) x1 x2 x3 x4 x6 x8 x9 x11 0 I
def f_X12_likely_70 (K : Sh) (R : Rf) (o : Nat)  : Nat → Int32 → Int32 → Int32 → Int64 → Int64 → Int32 → Im → Option (Int64 × Im)
  | 0, _, _, _, _, _, _, _ => none
  | k + 1, x1, x2, x3, x4, x6, x8, I =>
    if (ishl 1 x3) ≤ x8 then
      Option.bind (f_X12_divisor o x4 x6) fun q19 =>
      if x2 = 0 then
        Option.bind (if q19 = 0 then none else some (x4 / q19)) fun v22 =>
        some (v22, I)
      else
        Option.bind (if q19 = 0 then none else some (x6 / q19)) fun v21 =>
        some (v21, I)
    else
      Option.bind (f_X12_lay K R o I) fun q24 =>
      f_X12_likely_88 K R o (f_X12_likely_70 K R o k) FU x1 x2 x3 x4 x6 x8 (1 : Int64) 0 q24
def f_X12_likely_47 (K : Sh) (R : Rf) (o : Nat)  : Nat → Int32 → Int32 → Int32 → Int64 → Int64 → Int32 → Im → Option (Int64 × Im)
  | 0, _, _, _, _, _, _, _ => none
  | k + 1, x1, x2, x3, x4, x6, x8, I =>
    if x3 ≤ x8 then
      f_X12_likely_70 K R o FU x1 x2 x3 x4 x6 0 I
    else
      f_X12_likely_47 K R o k x1 x2 x3 x4 (x6 * (10 : Int64)) (x8 + 1) I
def f_X12_likely (K : Sh) (R : Rf) (o : Nat)  (x1 : Int32) (x2 : Int32) (I : Im) : Option (Int64 × Im) :=
  Option.bind (f_X12_isCaravan K I o x1) fun q28 =>
  if q28 = 0 then
    some ((-9223372036854775808 : Int64), I)
  else
    Option.bind (f_X12_in o x2 0 1) fun q30 =>
    if q30 = 0 then
      some ((-9223372036854775808 : Int64), I)
    else
      if 0 ≤ (I o 1) then
        Option.bind (f_X12_lay K R o I) fun q32 =>
        f_X12_likely_47 K R o FU x1 x2 (q32 o 21) (0 : Int64) (1 : Int64) 0 q32
      else
        some ((-9223372036854775808 : Int64), I)
def f_X12_layMore_137 (K : Sh) (R : Rf) (o : Nat)  : Nat → Int32 → Im → Option (Im)
  | 0, _, _ => none
  | k + 1, x5, I =>
    if (I o 21) ≤ x5 then
      some I
    else
      Option.bind (ldI K I (R o 22) x5) fun v1 =>
      Option.bind (stI K I (R o 25) x5 v1) fun I2 =>
      Option.bind (stI K I2 (R o 26) x5 0) fun I3 =>
      f_X12_layMore_137 K R o k (x5 + 1) I3
def f_X12_layMore_62 (K : Sh) (R : Rf) (o : Nat)  : Nat → Int32 → Int32 → Int32 → Int32 → Int32 → Im → Option (Im)
  | 0, _, _, _, _, _, _ => none
  | k + 1, x1, x2, x3, x4, x5, I =>
    if x5 ≤ x1 then
      Option.bind (stI K I (R o 22) x1 x3) fun I5 =>
      Option.bind (stI K I5 (R o 23) x1 x4) fun I6 =>
      Option.bind (stI K I6 (R o 24) x1 x2) fun I7 =>
      Option.bind (ldI K I7 (R o 24) (x1 + 1)) fun v8 =>
      Option.bind (stI K I7 (R o 24) (x1 + 1) (v8 - x2)) fun I9 =>
      Option.bind (some (u2 I9 o 21 ((I9 o 21) + 1))) fun I10 =>
      f_X12_layMore_137 K R o FU 0 I10
    else
      Option.bind (ldI K I (R o 24) (x5 - 1)) fun v11 =>
      Option.bind (stI K I (R o 24) x5 v11) fun I12 =>
      f_X12_layMore_62 K R o k x1 x2 x3 x4 (x5 - 1) I12
def f_X12_layMore_10 (K : Sh) (R : Rf) (o : Nat)  : Nat → Int32 → Int32 → Int32 → Int32 → Int32 → Im → Option (Im)
  | 0, _, _, _, _, _, _ => none
  | k + 1, x1, x2, x3, x4, x5, I =>
    if x5 ≤ x1 then
      f_X12_layMore_62 K R o FU x1 x2 x3 x4 ((I o 21) + 1) I
    else
      Option.bind (ldI K I (R o 22) (x5 - 1)) fun v14 =>
      Option.bind (stI K I (R o 22) x5 v14) fun I15 =>
      Option.bind (ldI K I15 (R o 23) (x5 - 1)) fun v16 =>
      Option.bind (stI K I15 (R o 23) x5 v16) fun I17 =>
      f_X12_layMore_10 K R o k x1 x2 x3 x4 (x5 - 1) I17
def f_X12_layMore (K : Sh) (R : Rf) (o : Nat)  (x1 : Int32) (x2 : Int32) (x3 : Int32) (x4 : Int32) (I : Im) : Option (Im) :=
  Option.bind (f_X12_lay K R o I) fun q19 =>
  f_X12_layMore_10 K R o FU x1 x2 x3 x4 (q19 o 21) q19
def f_X12_dig_168 (K : Sh) (R : Rf) (o : Nat) (r86 : Int32 → Int32 → Int32 → Int32 → Int32 → Int32 → Int32 → Int32 → Im → Option (Int32 × Im)) (r109 : Int32 → Int32 → Int32 → Int32 → Int32 → Int32 → Int32 → Int32 → Int32 → Int32 → Im → Option (Int32 × Im)) (x1 : Int32) (x2 : Int32) (x3 : Int32) (x4 : Int32) (x5 : Int32) (x8 : Int32) (x9 : Int32) (x10 : Int32) (I : Im) : Option (Int32 × Im) :=
  r109 x1 x2 x3 x4 x5 ((100 * x8) + x10) (I o 50) x8 x9 (x10 + 1) I
def f_X12_dig_109 (K : Sh) (R : Rf) (o : Nat) (r86 : Int32 → Int32 → Int32 → Int32 → Int32 → Int32 → Int32 → Int32 → Im → Option (Int32 × Im)) : Nat → Int32 → Int32 → Int32 → Int32 → Int32 → Int32 → Int32 → Int32 → Int32 → Int32 → Im → Option (Int32 × Im)
  | 0, _, _, _, _, _, _, _, _, _, _, _ => none
  | k + 1, x1, x2, x3, x4, x5, x6, x7, x8, x9, x10, I =>
    if x9 ≤ x10 then
      r86 x1 x2 x3 x4 x5 x6 x7 (x8 + 1) I
    else
      Option.bind (f_X12_layMore K R o x8 x10 x2 x3 I) fun q1 =>
      Option.bind (ldI K q1 (R o 34) x1) fun v3 =>
      Option.bind (ldI K q1 (R o 35) x1) fun v4 =>
      Option.bind (f_X12_go K R o v3 v4 0 5 q1) fun q5 =>
      if (q5 o 50) < 0 then
        f_X12_dig_109 K R o r86 k x1 x2 x3 x4 x5 x6 x7 x8 x9 (x10 + 1) q5
      else
        if x7 < 0 then
          f_X12_dig_168 K R o r86 (f_X12_dig_109 K R o r86 k) x1 x2 x3 x4 x5 x8 x9 x10 q5
        else
          if (q5 o 50) < x7 then
            f_X12_dig_168 K R o r86 (f_X12_dig_109 K R o r86 k) x1 x2 x3 x4 x5 x8 x9 x10 q5
          else
            f_X12_dig_109 K R o r86 k x1 x2 x3 x4 x5 x6 x7 x8 x9 (x10 + 1) q5
def f_X12_dig_86 (K : Sh) (R : Rf) (o : Nat)  : Nat → Int32 → Int32 → Int32 → Int32 → Int32 → Int32 → Int32 → Int32 → Im → Option (Int32 × Im)
  | 0, _, _, _, _, _, _, _, _, _ => none
  | k + 1, x1, x2, x3, x4, x5, x6, x7, x8, I =>
    if x5 < x8 then
      if x4 = 0 then
        some (x6, I)
      else
        some (x7, I)
    else
      Option.bind (f_X12_lay K R o I) fun q12 =>
      Option.bind (ldI K q12 (R o 24) x8) fun v14 =>
      f_X12_dig_109 K R o (f_X12_dig_86 K R o k) FU x1 x2 x3 x4 x5 x6 x7 x8 v14 1 q12
def f_X12_dig (K : Sh) (R : Rf) (o : Nat)  (x1 : Int32) (x2 : Int32) (x3 : Int32) (x4 : Int32) (I : Im) : Option (Int32 × Im) :=
  Option.bind (f_X12_isCaravan K I o x1) fun q16 =>
  if q16 = 0 then
    some ((-1), I)
  else
    Option.bind (f_X12_in o x4 0 1) fun q18 =>
    if q18 = 0 then
      some ((-1), I)
    else
      Option.bind (f_X12_in o x2 0 99) fun q20 =>
      if q20 = 0 then
        some ((-2), I)
      else
        Option.bind (f_X12_in o x3 0 99) fun q22 =>
        if q22 = 0 then
          some ((-2), I)
        else
          if 0 ≤ (I o 1) then
            Option.bind (f_X12_lay K R o I) fun q24 =>
            if (q24 o 21) = 5 then
              some ((-5), q24)
            else
              f_X12_dig_86 K R o FU x1 x2 x3 x4 (q24 o 21) (-5) (-5) 0 q24
          else
            some ((-3), I)
def f_X12_isTape (K : Sh) (o : Nat)  (x1 : Int32) : Option (Int32) :=
  Option.bind (f_X12_in o x1 0 5) fun q1 =>
  Option.bind (if q1 &&& 1 = q1 then some q1 else none) fun v3 =>
  some v3
def f_X12_judge_85 (K : Sh) (J : Jm) (R : Rf) (o : Nat)  : Nat → Int32 → Int32 → Int32 → Im → Option (Int32 × Im)
  | 0, _, _, _, _ => none
  | k + 1, x1, x2, x4, I =>
    if (I o 21) ≤ x4 then
      Option.bind (f_X12_goesWay K R o (I o 21) I) fun q1 =>
      if q1.1 = 0 then
        some ((q1.2 o 21), q1.2)
      else
        some ((-5), q1.2)
    else
      Option.bind (f_X12_goesWay K R o x4 I) fun q4 =>
      if q4.1 = 0 then
        some (x4, q4.2)
      else
        Option.bind (ldI K q4.2 (R o 69) x1) fun v6 =>
        if v6 < 0 then
          some ((101 + x4), q4.2)
        else
          if x2 < 0 then
            some ((101 + x4), q4.2)
          else
            Option.bind (ldI K q4.2 (R o 70) x1) fun v7 =>
            if x2 ≤ ((v7 - x4) - 1) then
              Option.bind (ldJ K J (R o 71) (((60 * x1) + x2) + x4)) fun v8 =>
              if (lg_cmp v8 (0 : Int64)) < 0 then
                some (x4, q4.2)
              else
                if (lg_cmp v8 (6 : Int64)) ≤ 0 then
                  Option.bind (f_X12_waitsAt K R o x4 q4.2) fun q9 =>
                  if q9.1 = 0 then
                    some ((x4 + 1), q9.2)
                  else
                    Option.bind (f_X12_standsFor K o (v8.toInt32) q9.2) fun q11 =>
                    if q11.1 = 0 then
                      some ((x4 + 1), q11.2)
                    else
                      Option.bind (f_X12_drawsAt K R o x4 1 q11.2) fun q13 =>
                      f_X12_judge_85 K J R o k x1 x2 (x4 + 1) q13
                else
                  some (x4, q4.2)
            else
              some ((101 + x4), q4.2)
def f_X12_judge_50 (K : Sh) (J : Jm) (R : Rf) (o : Nat)  (x1 : Int32) (x2 : Int32) (x3 : Int32) (I : Im) : Option (Int32 × Im) :=
  Option.bind (f_X12_lay K R o I) fun q24 =>
  Option.bind (ldI K q24 (R o 34) x3) fun v26 =>
  Option.bind (f_X12_layThirst K R o v26 q24) fun q27 =>
  Option.bind (ldI K q27 (R o 35) x3) fun v29 =>
  Option.bind (some (u2 q27 o 47 v29)) fun I30 =>
  Option.bind (some (u2 I30 o 48 (I30 o 46))) fun I31 =>
  f_X12_judge_85 K J R o FU x1 x2 0 I31
def f_X12_judge (K : Sh) (J : Jm) (R : Rf) (o : Nat)  (x1 : Int32) (x2 : Int32) (x3 : Int32) (I : Im) : Option (Int32 × Im) :=
  Option.bind (f_X12_isTape K o x1) fun q32 =>
  if q32 = 0 then
    some ((-1), I)
  else
    Option.bind (f_X12_isCaravan K I o x3) fun q34 =>
    if q34 = 0 then
      some ((-1), I)
    else
      if 0 ≤ (I o 1) then
        Option.bind (ldI K I (R o 69) x1) fun v36 =>
        if v36 < 0 then
          f_X12_judge_50 K J R o x1 x2 x3 I
        else
          Option.bind (ldI K I (R o 69) x1) fun v37 =>
          if v37 = 2 then
            f_X12_judge_50 K J R o x1 x2 x3 I
          else
            some ((-12), I)
      else
        some ((-3), I)
def f_X12_copy_2 (K : Sh) (o : Nat)  : Nat → Option Nat → Option Nat → Int32 → Im → Option (Im)
  | 0, _, _, _, _ => none
  | k + 1, x1, x2, x3, I =>
    Option.bind (alen K x2) fun v1 =>
    if v1 ≤ x3 then
      some I
    else
      Option.bind (ldI K I x1 x3) fun v2 =>
      Option.bind (stI K I x2 x3 v2) fun I3 =>
      f_X12_copy_2 K o k x1 x2 (x3 + 1) I3
def f_X12_copy (K : Sh) (o : Nat)  (x1 : Option Nat) (x2 : Option Nat) (I : Im) : Option (Im) :=
  f_X12_copy_2 K o FU x1 x2 0 I
def f_X12_image (K : Sh) (R : Rf) (o : Nat)  (I : Im) : Option (Int32 × Im) :=
  Option.bind (some (u2 I o 58 1)) fun I1 =>
  Option.bind (some (u2 I1 o 59 (I1 o 1))) fun I2 =>
  Option.bind (some (u2 I2 o 60 (I2 o 51))) fun I3 =>
  Option.bind (some (u2 I3 o 61 (I3 o 29))) fun I4 =>
  Option.bind (f_X12_copy K o (R o 18) (R o 62) I4) fun q5 =>
  Option.bind (f_X12_copy K o (R o 19) (R o 63) q5) fun q7 =>
  Option.bind (f_X12_copy K o (R o 20) (R o 64) q7) fun q9 =>
  Option.bind (f_X12_copy K o (R o 52) (R o 65) q9) fun q11 =>
  Option.bind (f_X12_copy K o (R o 37) (R o 66) q11) fun q13 =>
  some ((q13 o 51), q13)
def f_X12_undo (K : Sh) (R : Rf) (o : Nat)  (I : Im) : Option (Int32 × Im) :=
  if (I o 58) = 0 then
    some ((-3), I)
  else
    Option.bind (some (u2 I o 1 (I o 59))) fun I1 =>
    Option.bind (some (u2 I1 o 51 (I1 o 60))) fun I2 =>
    Option.bind (some (u2 I2 o 29 (I2 o 61))) fun I3 =>
    Option.bind (f_X12_copy K o (R o 62) (R o 18) I3) fun q4 =>
    Option.bind (f_X12_copy K o (R o 63) (R o 19) q4) fun q6 =>
    Option.bind (f_X12_copy K o (R o 64) (R o 20) q6) fun q8 =>
    Option.bind (f_X12_copy K o (R o 65) (R o 52) q8) fun q10 =>
    Option.bind (f_X12_copy K o (R o 66) (R o 37) q10) fun q12 =>
    some ((q12 o 51), q12)
def f_X12_body_19 (K : Sh) (R : Rf) (o : Nat)  (I : Im) : Option (Im) :=
  Option.bind (some (u2 I o 67 ((I o 67) + 1))) fun I1 =>
  some I1
def f_X12_body (K : Sh) (R : Rf) (o : Nat)  (x1 : Int32) (I : Im) : Option (Im) :=
  if 20 ≤ (I o 67) then
    f_X12_body_19 K R o I
  else
    Option.bind (stI K I (R o 68) (I o 67) x1) fun I2 =>
    f_X12_body_19 K R o I2
def f_X12_plainStands (K : Sh) (R : Rf) (o : Nat)  (x1 : Int32) (x2 : Int32) (I : Im) : Option (Int32 × Im) :=
  Option.bind (f_X12_body K R o 10 I) fun q1 =>
  some ((x2 + x1), q1)
def f_X12_nightStands (K : Sh) (R : Rf) (o : Nat)  (x1 : Int32) (x2 : Int32) (I : Im) : Option (Int32 × Im) :=
  Option.bind (f_X12_body K R o 30 I) fun q1 =>
  Option.bind (f_X12_plainStands K R o x1 (x2 * 3) q1) fun q3 =>
  some (q3.1, q3.2)
def f_X12_standsAct_81 (K : Sh) (R : Rf) (o : Nat)  (x1 : Int32) (x2 : Int32) (I : Im) : Option (Int32 × Im) :=
  Option.bind (f_X12_plainStands K R o x1 x2 I) fun q1 =>
  some (q1.1, q1.2)
def f_X12_standsAct (K : Sh) (R : Rf) (o : Nat)  (x1 : Int32) (x2 : Int32) (I : Im) : Option (Int32 × Im) :=
  Option.bind (ldI K I (R o 30) x1) fun v3 =>
  if v3 = 2 then
    Option.bind (f_X12_nightStands K R o x1 x2 I) fun q4 =>
    some (q4.1, q4.2)
  else
  if v3 = 3 then
    f_X12_standsAct_81 K R o x1 x2 I
  else
  if v3 = 4 then
    Option.bind (f_X12_body K R o 50 I) fun q8 =>
    Option.bind (f_X12_plainStands K R o x1 x2 q8) fun q10 =>
    some ((-q10.1), q10.2)
  else
  if v3 = 5 then
    f_X12_standsAct_81 K R o x1 x2 I
  else
  if v3 = 6 then
    Option.bind (f_X12_body K R o 71 I) fun q14 =>
    Option.bind (f_X12_nightStands K R o x1 x2 q14) fun q16 =>
    Option.bind (ldI K q16.2 (R o 31) x1) fun v18 =>
    some ((q16.1 ^^^ v18), q16.2)
  else
  f_X12_standsAct_81 K R o x1 x2 I
def f_X12_plainDraws (K : Sh) (R : Rf) (o : Nat)  (x1 : Int32) (x2 : Int32) (I : Im) : Option (Int32 × Im) :=
  Option.bind (f_X12_body K R o 11 I) fun q1 =>
  Option.bind (f_X12_standsAct K R o x1 x2 q1) fun q3 =>
  Option.bind (ldI K q3.2 (R o 31) x1) fun v5 =>
  some ((q3.1 - v5), q3.2)
def f_X12_waitDraws (K : Sh) (R : Rf) (o : Nat)  (x1 : Int32) (x2 : Int32) (I : Im) : Option (Int32 × Im) :=
  Option.bind (f_X12_body K R o 20 I) fun q1 =>
  Option.bind (f_X12_plainDraws K R o x1 x2 q1) fun q3 =>
  some ((q3.1 ^^^ 6), q3.2)
def f_X12_drawsAct_88 (K : Sh) (R : Rf) (o : Nat)  (x1 : Int32) (x2 : Int32) (I : Im) : Option (Int32 × Im) :=
  Option.bind (f_X12_plainDraws K R o x1 x2 I) fun q1 =>
  some (q1.1, q1.2)
def f_X12_drawsAct_44 (K : Sh) (R : Rf) (o : Nat)  (x1 : Int32) (x2 : Int32) (I : Im) : Option (Int32 × Im) :=
  Option.bind (f_X12_waitDraws K R o x1 x2 I) fun q3 =>
  some (q3.1, q3.2)
def f_X12_drawsAct (K : Sh) (R : Rf) (o : Nat)  (x1 : Int32) (x2 : Int32) (I : Im) : Option (Int32 × Im) :=
  Option.bind (ldI K I (R o 30) x1) fun v5 =>
  if v5 = 1 then
    f_X12_drawsAct_44 K R o x1 x2 I
  else
  if v5 = 2 then
    f_X12_drawsAct_88 K R o x1 x2 I
  else
  if v5 = 3 then
    f_X12_drawsAct_88 K R o x1 x2 I
  else
  if v5 = 4 then
    Option.bind (f_X12_body K R o 51 I) fun q9 =>
    Option.bind (f_X12_waitDraws K R o x1 (x2 + 1) q9) fun q11 =>
    some (q11.1, q11.2)
  else
  if v5 = 5 then
    f_X12_drawsAct_44 K R o x1 x2 I
  else
  if v5 = 6 then
    Option.bind (f_X12_body K R o 70 I) fun q15 =>
    Option.bind (f_X12_plainDraws K R o x1 x2 q15) fun q17 =>
    Option.bind (f_X12_nightStands K R o x1 2 q17.2) fun q19 =>
    some ((q17.1 + q19.1), q19.2)
  else
  f_X12_drawsAct_88 K R o x1 x2 I
def f_X12_plainTells (K : Sh) (R : Rf) (o : Nat)  (x1 : Int32) (x2 : Int32) (I : Im) : Option (Int32 × Im) :=
  Option.bind (f_X12_body K R o 12 I) fun q1 =>
  Option.bind (f_X12_drawsAct K R o x1 x2 q1) fun q3 =>
  some ((q3.1 * 2), q3.2)
def f_X12_tellsAct (K : Sh) (R : Rf) (o : Nat)  (x1 : Int32) (x2 : Int32) (I : Im) : Option (Int32 × Im) :=
  Option.bind (ldI K I (R o 30) x1) fun v1 =>
  if v1 = 3 then
    Option.bind (f_X12_body K R o 40 I) fun q2 =>
    Option.bind (f_X12_plainTells K R o x1 x2 q2) fun q4 =>
    Option.bind (f_X12_drawsAct K R o x1 1 q4.2) fun q6 =>
    some ((q4.1 + q6.1), q6.2)
  else
  if v1 = 5 then
    Option.bind (f_X12_body K R o 60 I) fun q9 =>
    Option.bind (f_X12_plainTells K R o x1 (x2 - x1) q9) fun q11 =>
    some (q11.1, q11.2)
  else
  Option.bind (f_X12_plainTells K R o x1 x2 I) fun q14 =>
  some (q14.1, q14.2)
def f_X12_act (K : Sh) (R : Rf) (o : Nat)  (x1 : Int32) (x2 : Int32) (x3 : Int32) (I : Im) : Option (Int32 × Im) :=
  Option.bind (some (u2 I o 67 0)) fun I1 =>
  Option.bind (f_X12_isRule K I1 o x1) fun q2 =>
  if q2 = 0 then
    some (0, I1)
  else
    Option.bind (f_X12_in o x2 0 2) fun q4 =>
    if q4 = 0 then
      some (0, I1)
    else
      if x2 = 0 then
        Option.bind (f_X12_standsAct K R o x1 x3 I1) fun q11 =>
        some (q11.1, q11.2)
      else
        if x2 = 1 then
          Option.bind (f_X12_drawsAct K R o x1 x3 I1) fun q8 =>
          some (q8.1, q8.2)
        else
          Option.bind (f_X12_tellsAct K R o x1 x3 I1) fun q6 =>
          some (q6.1, q6.2)
def f_X12_trace (K : Sh) (I : Im) (R : Rf) (o : Nat)  (x1 : Int32) : Option (Int32) :=
  Option.bind (f_X12_in o x1 0 19) fun q1 =>
  if q1 = 0 then
    some (-1)
  else
    if (I o 67) ≤ x1 then
      some (-1)
    else
      Option.bind (ldI K I (R o 68) x1) fun v3 =>
      some v3
def f_X12_taken_56 (K : Sh) (I : Im) (R : Rf) (o : Nat)  (x2 : Int32) (x3 : Int32) : Option (Int32) :=
  if x2 = 2 then
    if x3 = 6 then
      some x3
    else
      some (-12)
  else
    some (-12)
def f_X12_taken (K : Sh) (I : Im) (R : Rf) (o : Nat)  (x1 : Int32) (x2 : Int32) : Option (Int32) :=
  Option.bind (f_X12_in o x2 0 6) fun q3 =>
  if q3 = 0 then
    some (-2)
  else
    Option.bind (f_X12_isRule K I o x1) fun q5 =>
    if q5 = 0 then
      some (-11)
    else
      Option.bind (ldI K I (R o 30) x1) fun v7 =>
      if x2 = 0 then
        some v7
      else
        if v7 = x2 then
          some v7
        else
          if x2 = 1 then
            if v7 = 4 then
              some v7
            else
              if v7 = 5 then
                some v7
              else
                f_X12_taken_56 K I R o x2 v7
          else
            f_X12_taken_56 K I R o x2 v7
def f_X12_count (K : Sh) (I : Im) (o : Nat)  (x1 : Int32) : Option (Int32) :=
  if x1 = 0 then
    some (I o 0)
  else
  if x1 = 1 then
    some (I o 27)
  else
  if x1 = 2 then
    some (I o 28)
  else
  if x1 = 3 then
    some (I o 51)
  else
  if x1 = 4 then
    some (I o 29)
  else
  if x1 = 5 then
    some (I o 2)
  else
  if x1 = 6 then
    some (I o 67)
  else
  some (-2)
def f_X12_tape_69 (K : Sh) (R : Rf) (o : Nat)  : Nat → Int32 → Int32 → Im → Jm → Option (Int32 × Im × Jm)
  | 0, _, _, _, _ => none
  | k + 1, x1, x4, I, J =>
    if 60 ≤ x4 then
      some (1, I, J)
    else
      Option.bind (stJ K J (R o 71) ((60 * x1) + x4) (0 : Int64)) fun J1 =>
      f_X12_tape_69 K R o k x1 (x4 + 1) I J1
def f_X12_tape_65 (K : Sh) (R : Rf) (o : Nat)  (x1 : Int32) (s0 : Option Nat) (s1 : Int32) (s2 : Int32) (I : Im) (J : Jm) : Option (Int32 × Im × Jm) :=
  Option.bind (stI K I s0 s1 s2) fun I3 =>
  f_X12_tape_69 K R o FU x1 0 I3 J
def f_X12_tape_44 (K : Sh) (R : Rf) (o : Nat)  (x1 : Int32) (x2 : Int32) (x3 : Int32) (I : Im) (J : Jm) : Option (Int32 × Im × Jm) :=
  Option.bind (stI K I (R o 69) x1 x2) fun I4 =>
  if 0 ≤ x2 then
    f_X12_tape_65 K R o x1 (R o 70) x1 x3 I4 J
  else
    f_X12_tape_65 K R o x1 (R o 70) x1 0 I4 J
def f_X12_tape_33 (K : Sh) (R : Rf) (o : Nat)  (x1 : Int32) (x2 : Int32) (x3 : Int32) (I : Im) (J : Jm) : Option (Int32 × Im × Jm) :=
  if x2 < 0 then
    f_X12_tape_44 K R o x1 x2 x3 I J
  else
    if 0 ≤ x3 then
      f_X12_tape_44 K R o x1 x2 x3 I J
    else
      some ((-14), I, J)
def f_X12_tape (K : Sh) (R : Rf) (o : Nat)  (x1 : Int32) (x2 : Int32) (x3 : Int32) (I : Im) (J : Jm) : Option (Int32 × Im × Jm) :=
  Option.bind (f_X12_isTape K o x1) fun q8 =>
  if q8 = 0 then
    some ((-1), I, J)
  else
    Option.bind (f_X12_in o x2 (-1) 4) fun q10 =>
    if q10 = 0 then
      some ((-2), I, J)
    else
      if x2 < 0 then
        f_X12_tape_33 K R o x1 x2 x3 I J
      else
        if x3 ≤ 60 then
          f_X12_tape_33 K R o x1 x2 x3 I J
        else
          some ((-2), I, J)
def f_X12_narrow (o : Nat)  (x1 : Int32) (x2 : Int64) : Option (Int64) :=
  if x1 = 0 then
    some (((x2.toInt32).toInt8.toInt32).toInt64)
  else
    if x1 = 1 then
      some (((x2.toInt32).toInt16.toInt32).toInt64)
    else
      if x1 = 2 then
        some ((x2.toInt32).toInt64)
      else
        if x1 = 4 then
          if (lg_cmp x2 (0 : Int64)) = 0 then
            some (0 : Int64)
          else
            some (1 : Int64)
        else
          some x2
def f_X12_item (K : Sh) (I : Im) (R : Rf) (o : Nat)  (x1 : Int32) (x2 : Int32) (x3 : Int64) (J : Jm) : Option (Int32 × Jm) :=
  Option.bind (f_X12_isTape K o x1) fun q1 =>
  if q1 = 0 then
    some ((-1), J)
  else
    Option.bind (ldI K I (R o 69) x1) fun v3 =>
    if 0 ≤ v3 then
      Option.bind (ldI K I (R o 70) x1) fun v4 =>
      Option.bind (f_X12_in o x2 0 (v4 - 1)) fun q5 =>
      if q5 = 0 then
        some ((-13), J)
      else
        Option.bind (ldI K I (R o 69) x1) fun v7 =>
        Option.bind (f_X12_narrow o v7 x3) fun q8 =>
        Option.bind (stJ K J (R o 71) ((60 * x1) + x2) q8) fun J10 =>
        some (1, J10)
    else
      some ((-11), J)
def f_X12_read (K : Sh) (I : Im) (J : Jm) (R : Rf) (o : Nat)  (x1 : Int32) (x2 : Int32) : Option (Int64) :=
  Option.bind (f_X12_isTape K o x1) fun q1 =>
  if q1 = 0 then
    some (-9223372036854775808 : Int64)
  else
    Option.bind (ldI K I (R o 69) x1) fun v3 =>
    if v3 < 0 then
      some (-9223372036854775808 : Int64)
    else
      Option.bind (ldI K I (R o 70) x1) fun v4 =>
      Option.bind (f_X12_in o x2 0 (v4 - 1)) fun q5 =>
      if q5 = 0 then
        some (-9223372036854775808 : Int64)
      else
        Option.bind (ldJ K J (R o 71) ((60 * x1) + x2)) fun v7 =>
        some v7
def f_X12_shift_141 (K : Sh) (I : Im) (R : Rf) (o : Nat)  : Nat → Int32 → Int32 → Int32 → Int32 → Jm → Option (Int32 × Jm)
  | 0, _, _, _, _, _ => none
  | k + 1, x3, x4, x5, x6, J =>
    if x5 ≤ x6 then
      some (x5, J)
    else
      Option.bind (ldJ K J (R o 72) x6) fun v1 =>
      Option.bind (stJ K J (R o 71) (((60 * x3) + x4) + x6) v1) fun J2 =>
      f_X12_shift_141 K I R o k x3 x4 x5 (x6 + 1) J2
def f_X12_shift_104 (K : Sh) (I : Im) (R : Rf) (o : Nat)  : Nat → Int32 → Int32 → Int32 → Int32 → Int32 → Int32 → Jm → Option (Int32 × Jm)
  | 0, _, _, _, _, _, _, _ => none
  | k + 1, x1, x2, x3, x4, x5, x6, J =>
    if x5 ≤ x6 then
      f_X12_shift_141 K I R o FU x3 x4 x5 0 J
    else
      Option.bind (ldJ K J (R o 71) (((60 * x1) + x2) + x6)) fun v4 =>
      Option.bind (stJ K J (R o 72) x6 v4) fun J5 =>
      f_X12_shift_104 K I R o k x1 x2 x3 x4 x5 (x6 + 1) J5
def f_X12_shift (K : Sh) (I : Im) (R : Rf) (o : Nat)  (x1 : Int32) (x2 : Int32) (x3 : Int32) (x4 : Int32) (x5 : Int32) (J : Jm) : Option (Int32 × Jm) :=
  Option.bind (f_X12_isTape K o x1) fun q7 =>
  if q7 = 0 then
    some ((-1), J)
  else
    Option.bind (f_X12_isTape K o x3) fun q9 =>
    if q9 = 0 then
      some ((-1), J)
    else
      Option.bind (ldI K I (R o 69) x1) fun v11 =>
      if v11 < 0 then
        some ((-11), J)
      else
        Option.bind (ldI K I (R o 69) x3) fun v12 =>
        if 0 ≤ v12 then
          Option.bind (ldI K I (R o 69) x1) fun v13 =>
          Option.bind (ldI K I (R o 69) x3) fun v14 =>
          if v13 = v14 then
            if x5 < 0 then
              some ((-13), J)
            else
              if x2 < 0 then
                some ((-13), J)
              else
                if x4 < 0 then
                  some ((-13), J)
                else
                  Option.bind (ldI K I (R o 70) x1) fun v15 =>
                  if (v15 - x5) < x2 then
                    some ((-13), J)
                  else
                    Option.bind (ldI K I (R o 70) x3) fun v16 =>
                    if x4 ≤ (v16 - x5) then
                      f_X12_shift_104 K I R o FU x1 x2 x3 x4 x5 0 J
                    else
                      some ((-13), J)
          else
            some ((-12), J)
        else
          some ((-11), J)
def f_L_law_18 (Z : Nat → Nat) (L : Nat) (xs : Nat → Int32)  : Nat → Option Nat → Option Nat → Int32 → Sh → Nat → Im → Jm → Rf → Option (Int32 × Sh × Nat × Im × Jm × Rf)
  | 0, _, _, _, _, _, _, _, _ => none
  | k + 1, x1, x2, x3, K, n, I, J, R =>
    if ((Int32.ofNat L) - 6) < x3 then
      some (1, K, n, I, J, R)
    else
      Option.bind (ldS L xs x3) fun v1 =>
      if (v1 &&& 31) = 0 then
        Option.bind (ldS L xs (x3 + 1)) fun v2 =>
        Option.bind (ldS L xs (x3 + 2)) fun v3 =>
        Option.bind (ob K 12 x1) fun a4 =>
        Option.bind (f_X11_feed K R a4 v2 v3 I) fun q6 =>
        Option.bind (ldS L xs (x3 + 1)) fun v8 =>
        Option.bind (ldS L xs (x3 + 2)) fun v9 =>
        Option.bind (ob K 13 x2) fun a10 =>
        Option.bind (f_X12_feed K R a10 v8 v9 q6.2) fun q12 =>
        if q6.1 = q12.1 then
          f_L_law_18 Z L xs k x1 x2 (x3 + 6) K n q12.2 J R
        else
          some (0, K, n, q12.2, J, R)
      else
      if (v1 &&& 31) = 1 then
        Option.bind (ob K 12 x1) fun a16 =>
        Option.bind (f_X11_waste Z a16 K n I R) fun q18 =>
        Option.bind (ob q18.2.1 13 x2) fun a20 =>
        Option.bind (f_X12_waste q18.2.1 q18.2.2.2.2 a20 q18.2.2.2.1) fun q22 =>
        if q18.1 = q22.1 then
          f_L_law_18 Z L xs k x1 x2 (x3 + 6) q18.2.1 q18.2.2.1 q22.2 J q18.2.2.2.2
        else
          some (0, q18.2.1, q18.2.2.1, q22.2, J, q18.2.2.2.2)
      else
      if (v1 &&& 31) = 2 then
        Option.bind (ldS L xs (x3 + 1)) fun v26 =>
        Option.bind (ob K 12 x1) fun a27 =>
        Option.bind (f_X11_of K I R a27 v26) fun q29 =>
        Option.bind (ldS L xs (x3 + 1)) fun v31 =>
        Option.bind (ob K 13 x2) fun a32 =>
        Option.bind (f_X12_of K R a32 v31 I) fun q34 =>
        if q29 = q34.1 then
          f_L_law_18 Z L xs k x1 x2 (x3 + 6) K n q34.2 J R
        else
          some (0, K, n, q34.2, J, R)
      else
      if (v1 &&& 31) = 3 then
        Option.bind (ldS L xs (x3 + 1)) fun v38 =>
        Option.bind (ldS L xs (x3 + 2)) fun v39 =>
        Option.bind (ob K 12 x1) fun a40 =>
        Option.bind (f_X11_holds K I R a40 v38 v39) fun q42 =>
        Option.bind (ldS L xs (x3 + 1)) fun v44 =>
        Option.bind (ldS L xs (x3 + 2)) fun v45 =>
        Option.bind (ob K 13 x2) fun a46 =>
        Option.bind (f_X12_holds K R a46 v44 v45 I) fun q48 =>
        if q42 = q48.1 then
          f_L_law_18 Z L xs k x1 x2 (x3 + 6) K n q48.2 J R
        else
          some (0, K, n, q48.2, J, R)
      else
      if (v1 &&& 31) = 4 then
        Option.bind (ldS L xs (x3 + 1)) fun v52 =>
        Option.bind (ldS L xs (x3 + 2)) fun v53 =>
        Option.bind (ldS L xs (x3 + 3)) fun v54 =>
        Option.bind (ob K 12 x1) fun a55 =>
        Option.bind (f_X11_drinks K I R a55 v52 v53 v54) fun q57 =>
        Option.bind (ldS L xs (x3 + 1)) fun v59 =>
        Option.bind (ldS L xs (x3 + 2)) fun v60 =>
        Option.bind (ldS L xs (x3 + 3)) fun v61 =>
        Option.bind (ob K 13 x2) fun a62 =>
        Option.bind (f_X12_drinks K R a62 v59 v60 v61 I) fun q64 =>
        if q57 = q64.1 then
          f_L_law_18 Z L xs k x1 x2 (x3 + 6) K n q64.2 J R
        else
          some (0, K, n, q64.2, J, R)
      else
      if (v1 &&& 31) = 5 then
        Option.bind (ldS L xs (x3 + 1)) fun v68 =>
        Option.bind (ldS L xs (x3 + 2)) fun v69 =>
        Option.bind (ob K 12 x1) fun a70 =>
        Option.bind (f_X11_odds K R a70 v68 v69 I) fun q72 =>
        Option.bind (ldS L xs (x3 + 1)) fun v74 =>
        Option.bind (ldS L xs (x3 + 2)) fun v75 =>
        Option.bind (ob K 13 x2) fun a76 =>
        Option.bind (f_X12_odds K R a76 v74 v75 q72.2) fun q78 =>
        if q72.1 = q78.1 then
          f_L_law_18 Z L xs k x1 x2 (x3 + 6) K n q78.2 J R
        else
          some (0, K, n, q78.2, J, R)
      else
      if (v1 &&& 31) = 6 then
        Option.bind (ldS L xs (x3 + 1)) fun v82 =>
        Option.bind (ob K 12 x1) fun a83 =>
        Option.bind (f_X11_ever K I R a83 v82) fun q85 =>
        Option.bind (ldS L xs (x3 + 1)) fun v87 =>
        Option.bind (ob K 13 x2) fun a88 =>
        Option.bind (f_X12_ever K R a88 v87 I) fun q90 =>
        if q85 = q90.1 then
          f_L_law_18 Z L xs k x1 x2 (x3 + 6) K n q90.2 J R
        else
          some (0, K, n, q90.2, J, R)
      else
      if (v1 &&& 31) = 7 then
        Option.bind (ldS L xs (x3 + 1)) fun v94 =>
        Option.bind (ldS L xs (x3 + 2)) fun v95 =>
        Option.bind (ob K 12 x1) fun a96 =>
        Option.bind (f_X11_rule a96 v94 v95 K n I R) fun q98 =>
        Option.bind (ldS L xs (x3 + 1)) fun v100 =>
        Option.bind (ldS L xs (x3 + 2)) fun v101 =>
        Option.bind (ob q98.2.1 13 x2) fun a102 =>
        Option.bind (f_X12_rule q98.2.1 q98.2.2.2.2 a102 v100 v101 q98.2.2.2.1) fun q104 =>
        if q98.1 = q104.1 then
          f_L_law_18 Z L xs k x1 x2 (x3 + 6) q98.2.1 q98.2.2.1 q104.2 J q98.2.2.2.2
        else
          some (0, q98.2.1, q98.2.2.1, q104.2, J, q98.2.2.2.2)
      else
      if (v1 &&& 31) = 8 then
        Option.bind (ldS L xs (x3 + 1)) fun v108 =>
        Option.bind (ldS L xs (x3 + 2)) fun v109 =>
        Option.bind (ob K 12 x1) fun a110 =>
        Option.bind (f_X11_row K R a110 v108 v109 I) fun q112 =>
        Option.bind (ldS L xs (x3 + 1)) fun v114 =>
        Option.bind (ldS L xs (x3 + 2)) fun v115 =>
        Option.bind (ob K 13 x2) fun a116 =>
        Option.bind (f_X12_row K R a116 v114 v115 q112.2) fun q118 =>
        if q112.1 = q118.1 then
          f_L_law_18 Z L xs k x1 x2 (x3 + 6) K n q118.2 J R
        else
          some (0, K, n, q118.2, J, R)
      else
      if (v1 &&& 31) = 9 then
        Option.bind (ldS L xs (x3 + 1)) fun v122 =>
        Option.bind (ldS L xs (x3 + 2)) fun v123 =>
        Option.bind (ldS L xs (x3 + 3)) fun v124 =>
        Option.bind (ob K 12 x1) fun a125 =>
        Option.bind (f_X11_caravan a125 v122 v123 v124 K n I R) fun q127 =>
        Option.bind (ldS L xs (x3 + 1)) fun v129 =>
        Option.bind (ldS L xs (x3 + 2)) fun v130 =>
        Option.bind (ldS L xs (x3 + 3)) fun v131 =>
        Option.bind (ob q127.2.1 13 x2) fun a132 =>
        Option.bind (f_X12_caravan q127.2.1 q127.2.2.2.2 a132 v129 v130 v131 q127.2.2.2.1) fun q134 =>
        if q127.1 = q134.1 then
          f_L_law_18 Z L xs k x1 x2 (x3 + 6) q127.2.1 q127.2.2.1 q134.2 J q127.2.2.2.2
        else
          some (0, q127.2.1, q127.2.2.1, q134.2, J, q127.2.2.2.2)
      else
      if (v1 &&& 31) = 10 then
        Option.bind (ldS L xs (x3 + 1)) fun v138 =>
        Option.bind (ldS L xs (x3 + 2)) fun v139 =>
        Option.bind (ob K 12 x1) fun a140 =>
        Option.bind (f_X11_would K a140 v138 v139 I R) fun q142 =>
        Option.bind (ldS L xs (x3 + 1)) fun v144 =>
        Option.bind (ldS L xs (x3 + 2)) fun v145 =>
        Option.bind (ob K 13 x2) fun a146 =>
        Option.bind (f_X12_would K q142.2.2 a146 v144 v145 q142.2.1) fun q148 =>
        if q142.1 = q148.1 then
          f_L_law_18 Z L xs k x1 x2 (x3 + 6) K n q148.2 J q142.2.2
        else
          some (0, K, n, q148.2, J, q142.2.2)
      else
      if (v1 &&& 31) = 11 then
        Option.bind (ldS L xs (x3 + 1)) fun v152 =>
        Option.bind (ob K 12 x1) fun a153 =>
        Option.bind (f_X11_goes K a153 v152 I R) fun q155 =>
        Option.bind (ldS L xs (x3 + 1)) fun v157 =>
        Option.bind (ob K 13 x2) fun a158 =>
        Option.bind (f_X12_goes K q155.2.2 a158 v157 q155.2.1) fun q160 =>
        if q155.1 = q160.1 then
          f_L_law_18 Z L xs k x1 x2 (x3 + 6) K n q160.2 J q155.2.2
        else
          some (0, K, n, q160.2, J, q155.2.2)
      else
      if (v1 &&& 31) = 12 then
        Option.bind (ldS L xs (x3 + 1)) fun v164 =>
        Option.bind (ob K 12 x1) fun a165 =>
        Option.bind (f_X11_hand K R a165 v164 I) fun q167 =>
        Option.bind (ldS L xs (x3 + 1)) fun v169 =>
        Option.bind (ob K 13 x2) fun a170 =>
        Option.bind (f_X12_hand K R a170 v169 q167.2) fun q172 =>
        if q167.1 = q172.1 then
          f_L_law_18 Z L xs k x1 x2 (x3 + 6) K n q172.2 J R
        else
          some (0, K, n, q172.2, J, R)
      else
      if (v1 &&& 31) = 13 then
        Option.bind (ldS L xs (x3 + 1)) fun v176 =>
        Option.bind (ldS L xs (x3 + 2)) fun v177 =>
        Option.bind (ob K 12 x1) fun a178 =>
        Option.bind (f_X11_gone K R a178 v176 v177 I) fun q180 =>
        Option.bind (ldS L xs (x3 + 1)) fun v182 =>
        Option.bind (ldS L xs (x3 + 2)) fun v183 =>
        Option.bind (ob K 13 x2) fun a184 =>
        Option.bind (f_X12_gone K R a184 v182 v183 q180.2) fun q186 =>
        if q180.1 = q186.1 then
          f_L_law_18 Z L xs k x1 x2 (x3 + 6) K n q186.2 J R
        else
          some (0, K, n, q186.2, J, R)
      else
      if (v1 &&& 31) = 14 then
        Option.bind (ldS L xs (x3 + 1)) fun v190 =>
        Option.bind (ldS L xs (x3 + 2)) fun v191 =>
        Option.bind (ldS L xs (x3 + 3)) fun v192 =>
        Option.bind (ob K 12 x1) fun a193 =>
        Option.bind (f_X11_size K a193 v190 v191 v192 I R) fun q195 =>
        Option.bind (ldS L xs (x3 + 1)) fun v197 =>
        Option.bind (ldS L xs (x3 + 2)) fun v198 =>
        Option.bind (ldS L xs (x3 + 3)) fun v199 =>
        Option.bind (ob K 13 x2) fun a200 =>
        Option.bind (f_X12_size K q195.2.2 a200 v197 v198 v199 q195.2.1) fun q202 =>
        if q195.1 = q202.1 then
          f_L_law_18 Z L xs k x1 x2 (x3 + 6) K n q202.2 J q195.2.2
        else
          some (0, K, n, q202.2, J, q195.2.2)
      else
      if (v1 &&& 31) = 15 then
        Option.bind (ldS L xs (x3 + 1)) fun v206 =>
        Option.bind (ob K 12 x1) fun a207 =>
        Option.bind (f_X11_several K R a207 v206 I) fun q209 =>
        Option.bind (ldS L xs (x3 + 1)) fun v211 =>
        Option.bind (ob K 13 x2) fun a212 =>
        Option.bind (f_X12_several K R a212 v211 q209.2) fun q214 =>
        if q209.1 = q214.1 then
          f_L_law_18 Z L xs k x1 x2 (x3 + 6) K n q214.2 J R
        else
          some (0, K, n, q214.2, J, R)
      else
      if (v1 &&& 31) = 16 then
        Option.bind (ldS L xs (x3 + 1)) fun v218 =>
        Option.bind (ob K 12 x1) fun a219 =>
        Option.bind (f_X11_all Z K a219 v218 I R) fun q221 =>
        Option.bind (ldS L xs (x3 + 1)) fun v223 =>
        Option.bind (ob K 13 x2) fun a224 =>
        Option.bind (f_X12_all K q221.2.2 a224 v223 q221.2.1) fun q226 =>
        if q221.1 = q226.1 then
          f_L_law_18 Z L xs k x1 x2 (x3 + 6) K n q226.2 J q221.2.2
        else
          some (0, K, n, q226.2, J, q221.2.2)
      else
      if (v1 &&& 31) = 17 then
        Option.bind (ldS L xs (x3 + 1)) fun v230 =>
        Option.bind (ldS L xs (x3 + 2)) fun v231 =>
        Option.bind (ob K 12 x1) fun a232 =>
        Option.bind (f_X11_likely K a232 v230 v231 I R) fun q234 =>
        Option.bind (ldS L xs (x3 + 1)) fun v236 =>
        Option.bind (ldS L xs (x3 + 2)) fun v237 =>
        Option.bind (ob K 13 x2) fun a238 =>
        Option.bind (f_X12_likely K q234.2.2 a238 v236 v237 q234.2.1) fun q240 =>
        if (lg_cmp q234.1 q240.1) = 0 then
          f_L_law_18 Z L xs k x1 x2 (x3 + 6) K n q240.2 J q234.2.2
        else
          some (0, K, n, q240.2, J, q234.2.2)
      else
      if (v1 &&& 31) = 18 then
        Option.bind (ldS L xs (x3 + 1)) fun v244 =>
        Option.bind (ldS L xs (x3 + 2)) fun v245 =>
        Option.bind (ldS L xs (x3 + 3)) fun v246 =>
        Option.bind (ldS L xs (x3 + 4)) fun v247 =>
        Option.bind (ob K 12 x1) fun a248 =>
        Option.bind (f_X11_dig K a248 v244 v245 v246 v247 I R) fun q250 =>
        Option.bind (ldS L xs (x3 + 1)) fun v252 =>
        Option.bind (ldS L xs (x3 + 2)) fun v253 =>
        Option.bind (ldS L xs (x3 + 3)) fun v254 =>
        Option.bind (ldS L xs (x3 + 4)) fun v255 =>
        Option.bind (ob K 13 x2) fun a256 =>
        Option.bind (f_X12_dig K q250.2.2 a256 v252 v253 v254 v255 q250.2.1) fun q258 =>
        if q250.1 = q258.1 then
          f_L_law_18 Z L xs k x1 x2 (x3 + 6) K n q258.2 J q250.2.2
        else
          some (0, K, n, q258.2, J, q250.2.2)
      else
      if (v1 &&& 31) = 19 then
        Option.bind (ldS L xs (x3 + 1)) fun v262 =>
        Option.bind (ldS L xs (x3 + 2)) fun v263 =>
        Option.bind (ldS L xs (x3 + 3)) fun v264 =>
        Option.bind (ob K 12 x1) fun a265 =>
        Option.bind (f_X11_judge K J R a265 v262 v263 v264 I) fun q267 =>
        Option.bind (ldS L xs (x3 + 1)) fun v269 =>
        Option.bind (ldS L xs (x3 + 2)) fun v270 =>
        Option.bind (ldS L xs (x3 + 3)) fun v271 =>
        Option.bind (ob K 13 x2) fun a272 =>
        Option.bind (f_X12_judge K J R a272 v269 v270 v271 q267.2) fun q274 =>
        if q267.1 = q274.1 then
          f_L_law_18 Z L xs k x1 x2 (x3 + 6) K n q274.2 J R
        else
          some (0, K, n, q274.2, J, R)
      else
      if (v1 &&& 31) = 20 then
        Option.bind (ob K 12 x1) fun a278 =>
        Option.bind (f_X11_image K a278 I R) fun q280 =>
        Option.bind (ob K 13 x2) fun a282 =>
        Option.bind (f_X12_image K q280.2.2 a282 q280.2.1) fun q284 =>
        if q280.1 = q284.1 then
          f_L_law_18 Z L xs k x1 x2 (x3 + 6) K n q284.2 J q280.2.2
        else
          some (0, K, n, q284.2, J, q280.2.2)
      else
      if (v1 &&& 31) = 21 then
        Option.bind (ob K 12 x1) fun a288 =>
        Option.bind (f_X11_undo K a288 I R) fun q290 =>
        Option.bind (ob K 13 x2) fun a292 =>
        Option.bind (f_X12_undo K q290.2.2 a292 q290.2.1) fun q294 =>
        if q290.1 = q294.1 then
          f_L_law_18 Z L xs k x1 x2 (x3 + 6) K n q294.2 J q290.2.2
        else
          some (0, K, n, q294.2, J, q290.2.2)
      else
      if (v1 &&& 31) = 22 then
        Option.bind (ldS L xs (x3 + 1)) fun v298 =>
        Option.bind (ldS L xs (x3 + 2)) fun v299 =>
        Option.bind (ldS L xs (x3 + 3)) fun v300 =>
        Option.bind (ob K 12 x1) fun a301 =>
        Option.bind (f_X11_act Z K R a301 v298 v299 v300 I) fun q303 =>
        Option.bind (ldS L xs (x3 + 1)) fun v305 =>
        Option.bind (ldS L xs (x3 + 2)) fun v306 =>
        Option.bind (ldS L xs (x3 + 3)) fun v307 =>
        Option.bind (ob K 13 x2) fun a308 =>
        Option.bind (f_X12_act K R a308 v305 v306 v307 q303.2) fun q310 =>
        if q303.1 = q310.1 then
          f_L_law_18 Z L xs k x1 x2 (x3 + 6) K n q310.2 J R
        else
          some (0, K, n, q310.2, J, R)
      else
      if (v1 &&& 31) = 23 then
        Option.bind (ldS L xs (x3 + 1)) fun v314 =>
        Option.bind (ob K 12 x1) fun a315 =>
        Option.bind (f_X11_trace K I R a315 v314) fun q317 =>
        Option.bind (ldS L xs (x3 + 1)) fun v319 =>
        Option.bind (ob K 13 x2) fun a320 =>
        Option.bind (f_X12_trace K I R a320 v319) fun q322 =>
        if q317 = q322 then
          f_L_law_18 Z L xs k x1 x2 (x3 + 6) K n I J R
        else
          some (0, K, n, I, J, R)
      else
      if (v1 &&& 31) = 24 then
        Option.bind (ldS L xs (x3 + 1)) fun v326 =>
        Option.bind (ldS L xs (x3 + 2)) fun v327 =>
        Option.bind (ob K 12 x1) fun a328 =>
        Option.bind (f_X11_taken Z K I R a328 v326 v327) fun q330 =>
        Option.bind (ldS L xs (x3 + 1)) fun v332 =>
        Option.bind (ldS L xs (x3 + 2)) fun v333 =>
        Option.bind (ob K 13 x2) fun a334 =>
        Option.bind (f_X12_taken K I R a334 v332 v333) fun q336 =>
        if q330 = q336 then
          f_L_law_18 Z L xs k x1 x2 (x3 + 6) K n I J R
        else
          some (0, K, n, I, J, R)
      else
      if (v1 &&& 31) = 25 then
        Option.bind (ldS L xs (x3 + 1)) fun v340 =>
        Option.bind (ob K 12 x1) fun a341 =>
        Option.bind (f_X11_count K I R a341 v340) fun q343 =>
        Option.bind (ldS L xs (x3 + 1)) fun v345 =>
        Option.bind (ob K 13 x2) fun a346 =>
        Option.bind (f_X12_count K I a346 v345) fun q348 =>
        if q343 = q348 then
          f_L_law_18 Z L xs k x1 x2 (x3 + 6) K n I J R
        else
          some (0, K, n, I, J, R)
      else
      if (v1 &&& 31) = 26 then
        Option.bind (ldS L xs (x3 + 1)) fun v352 =>
        Option.bind (ldS L xs (x3 + 2)) fun v353 =>
        Option.bind (ldS L xs (x3 + 3)) fun v354 =>
        Option.bind (ob K 12 x1) fun a355 =>
        Option.bind (f_X11_tape K R a355 v352 v353 v354 I J) fun q357 =>
        Option.bind (ldS L xs (x3 + 1)) fun v359 =>
        Option.bind (ldS L xs (x3 + 2)) fun v360 =>
        Option.bind (ldS L xs (x3 + 3)) fun v361 =>
        Option.bind (ob K 13 x2) fun a362 =>
        Option.bind (f_X12_tape K R a362 v359 v360 v361 q357.2.1 q357.2.2) fun q364 =>
        if q357.1 = q364.1 then
          f_L_law_18 Z L xs k x1 x2 (x3 + 6) K n q364.2.1 q364.2.2 R
        else
          some (0, K, n, q364.2.1, q364.2.2, R)
      else
      if (v1 &&& 31) = 27 then
        Option.bind (ldS L xs (x3 + 1)) fun v368 =>
        Option.bind (ldS L xs (x3 + 2)) fun v369 =>
        Option.bind (ldS L xs (x3 + 3)) fun v370 =>
        Option.bind (ldS L xs (x3 + 4)) fun v371 =>
        Option.bind (ob K 12 x1) fun a372 =>
        Option.bind (f_X11_item K I R a372 v368 v369 ((lshl (v370.toInt64) 32) ||| ((v371.toInt64) &&& (4294967295 : Int64))) J) fun q374 =>
        Option.bind (ldS L xs (x3 + 1)) fun v376 =>
        Option.bind (ldS L xs (x3 + 2)) fun v377 =>
        Option.bind (ldS L xs (x3 + 3)) fun v378 =>
        Option.bind (ldS L xs (x3 + 4)) fun v379 =>
        Option.bind (ob K 13 x2) fun a380 =>
        Option.bind (f_X12_item K I R a380 v376 v377 ((lshl (v378.toInt64) 32) ||| ((v379.toInt64) &&& (4294967295 : Int64))) q374.2) fun q382 =>
        if q374.1 = q382.1 then
          f_L_law_18 Z L xs k x1 x2 (x3 + 6) K n I q382.2 R
        else
          some (0, K, n, I, q382.2, R)
      else
      if (v1 &&& 31) = 28 then
        Option.bind (ldS L xs (x3 + 1)) fun v386 =>
        Option.bind (ldS L xs (x3 + 2)) fun v387 =>
        Option.bind (ob K 12 x1) fun a388 =>
        Option.bind (f_X11_read K I J R a388 v386 v387) fun q390 =>
        Option.bind (ldS L xs (x3 + 1)) fun v392 =>
        Option.bind (ldS L xs (x3 + 2)) fun v393 =>
        Option.bind (ob K 13 x2) fun a394 =>
        Option.bind (f_X12_read K I J R a394 v392 v393) fun q396 =>
        if (lg_cmp q390 q396) = 0 then
          f_L_law_18 Z L xs k x1 x2 (x3 + 6) K n I J R
        else
          some (0, K, n, I, J, R)
      else
      if (v1 &&& 31) = 29 then
        Option.bind (ldS L xs (x3 + 1)) fun v400 =>
        Option.bind (ldS L xs (x3 + 2)) fun v401 =>
        Option.bind (ldS L xs (x3 + 3)) fun v402 =>
        Option.bind (ldS L xs (x3 + 4)) fun v403 =>
        Option.bind (ldS L xs (x3 + 5)) fun v404 =>
        Option.bind (ob K 12 x1) fun a405 =>
        Option.bind (f_X11_shift K I R a405 v400 v401 v402 v403 v404 J) fun q407 =>
        Option.bind (ldS L xs (x3 + 1)) fun v409 =>
        Option.bind (ldS L xs (x3 + 2)) fun v410 =>
        Option.bind (ldS L xs (x3 + 3)) fun v411 =>
        Option.bind (ldS L xs (x3 + 4)) fun v412 =>
        Option.bind (ldS L xs (x3 + 5)) fun v413 =>
        Option.bind (ob K 13 x2) fun a414 =>
        Option.bind (f_X12_shift K I R a414 v409 v410 v411 v412 v413 q407.2) fun q416 =>
        if q407.1 = q416.1 then
          f_L_law_18 Z L xs k x1 x2 (x3 + 6) K n I q416.2 R
        else
          some (0, K, n, I, q416.2, R)
      else
      f_L_law_18 Z L xs k x1 x2 (x3 + 6) K n I J R
def f_L_law (Z : Nat → Nat) (L : Nat) (xs : Nat → Int32)  (K : Sh) (n : Nat) (I : Im) (J : Jm) (R : Rf) : Option (Int32 × Sh × Nat × Im × Jm × Rf) :=
  Option.bind (some (u1 K n (12, 19))) fun K421 =>
  Option.bind (some (zr I n 0)) fun I422 =>
  Option.bind (some (zr R n none)) fun R423 =>
  Option.bind (f_X11_init n K421 (n + 1) I422 J R423) fun q424 =>
  Option.bind (some (u1 q424.1 q424.2.1 (13, 73))) fun K426 =>
  Option.bind (some (zr q424.2.2.1 q424.2.1 0)) fun I427 =>
  Option.bind (some (zr q424.2.2.2.2 q424.2.1 none)) fun R428 =>
  Option.bind (f_X12_init q424.2.1 K426 (q424.2.1 + 1) I427 q424.2.2.2.1 R428) fun q429 =>
  f_L_law_18 Z L xs 514 (some n) (some q424.2.1) 0 q429.1 q429.2.1 q429.2.2.1 q429.2.2.2.1 q429.2.2.2.2
