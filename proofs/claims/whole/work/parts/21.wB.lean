noncomputable def f_To_sign (a1 : Int) (s0 : SS) : OO :=
  if a1 < 0 then (
    some ((-1), s0))
  else (
    if (gi s0 43 1) ≤ a1 then (
      some ((-1), s0))
    else (
      if 1600 ≤ a1 then (
        some ((-1), s0))
      else (
        oc (0 ≤ a1 ∧ a1 < 1600) <|
        some (gi s0 1 ((a1).toNat), s0))))
noncomputable def f_To_isBlank (a1 : Int) (s0 : SS) : OO :=
  if a1 = 32 then (
    some (1, s0))
  else (
    if a1 = 10 then (
      some (1, s0))
    else (
      some (0, s0)))
noncomputable def f_To_isLetter (a1 : Int) (s0 : SS) : OO :=
  if a1 < 97 then (
    some (0, s0))
  else (
    if 122 < a1 then (
      some (0, s0))
    else (
      some (1, s0)))
noncomputable def l_To_takeWord_102  : Nat → Int → Int → Int → SS → OO
  | 0, _, _, _, _ => none
  | fu + 1, x1, x2, x4, s0 =>
    if 107 ≤ x4 then (
      some (0, s0))
    else (
      if (gi s0 43 3) = 3 then (
        oc (0 ≤ x4 ∧ x4 < 107) <|
        ol (kwc (x4).toNat) fun x4_ =>
        if x4_ = 32 then (
          if (ycmp x2 (gj s0 43 6)) = 0 then (
            os (si s0 43 3 x1) fun s7 =>
            (l_To_takeWord_102 fu) x1 x2 (iw (x4 + 1)) s7)
          else (
            (l_To_takeWord_102 fu) (iw (x1 + 1)) 0 (iw (x4 + 1)) s0))
        else (
          ol (jw ((jw (32 * x2)) + (iw ((iw (x4_ - 97)) + 1)))) fun x8_ =>
          (l_To_takeWord_102 fu) x1 x8_ (iw (x4 + 1)) s0))
      else (
        some (0, s0)))
noncomputable def j_To_takeWord_90  (z1 : Int) (s0 : SS) : OO :=
  os (si s0 43 3 z1) fun s1 =>
  l_To_takeWord_102 FU 256 0 0 s1
noncomputable def j_To_takeWord_70   (s0 : SS) : OO :=
  if (iw ((gi s0 43 2) - (gi s0 43 4))) ≤ 8 then (
    j_To_takeWord_90 3 s0)
  else (
    j_To_takeWord_90 1 s0)
noncomputable def l_To_takeWord_5  : Nat → SS → OO
  | 0, _ => none
  | fu + 1, s0 =>
    if (gi s0 43 1) ≤ (gi s0 43 2) then (
      j_To_takeWord_70 s0)
    else (
      ob (f_To_sign (gi s0 43 2) s0) fun r2 s2 =>
      ob (f_To_isLetter r2 s2) fun r3 s3 =>
      if r3 = 0 then (
        j_To_takeWord_70 s3)
      else (
        ob (f_To_sign (gi s3 43 2) s3) fun r5 s5 =>
        os (sj s5 43 6 (jw ((jw (32 * (gj s3 43 6))) + (iw ((iw (r5 - 97)) + 1))))) fun s6 =>
        os (si s6 43 2 (iw ((gi s6 43 2) + 1))) fun s7 =>
        (l_To_takeWord_5 fu) s7))
noncomputable def f_To_takeWord  (s0 : SS) : OO :=
  os (sj s0 43 6 0) fun s1 =>
  l_To_takeWord_5 FU s1
noncomputable def f_To_isDigit (a1 : Int) (s0 : SS) : OO :=
  if a1 < 48 then (
    some (0, s0))
  else (
    if 57 < a1 then (
      some (0, s0))
    else (
      some (1, s0)))
noncomputable def j_To_takeNumber_99  (z1 : Int) (s0 : SS) : OO :=
  os (si s0 43 3 z1) fun s1 =>
  some (0, s1)
noncomputable def j_To_takeNumber_94   (s0 : SS) : OO :=
  j_To_takeNumber_99 1 s0
noncomputable def j_To_takeNumber_66   (s0 : SS) : OO :=
  if 4 < (iw ((gi s0 43 2) - (gi s0 43 4))) then (
    j_To_takeNumber_94 s0)
  else (
    ob (f_To_sign (gi s0 43 2) s0) fun r2 s2 =>
    ob (f_To_isLetter r2 s2) fun r3 s3 =>
    if r3 = 0 then (
      j_To_takeNumber_99 2 s3)
    else (
      j_To_takeNumber_94 s3))
noncomputable def l_To_takeNumber_5  : Nat → SS → OO
  | 0, _ => none
  | fu + 1, s0 =>
    if (gi s0 43 1) ≤ (gi s0 43 2) then (
      j_To_takeNumber_66 s0)
    else (
      ob (f_To_sign (gi s0 43 2) s0) fun r2 s2 =>
      ob (f_To_isDigit r2 s2) fun r3 s3 =>
      if r3 = 0 then (
        j_To_takeNumber_66 s3)
      else (
        ob (f_To_sign (gi s3 43 2) s3) fun r5 s5 =>
        os (si s5 43 5 (iw ((iw (10 * (gi s3 43 5))) + (iw (r5 - 48))))) fun s6 =>
        os (si s6 43 2 (iw ((gi s6 43 2) + 1))) fun s7 =>
        (l_To_takeNumber_5 fu) s7))
noncomputable def f_To_takeNumber  (s0 : SS) : OO :=
  os (si s0 43 5 0) fun s1 =>
  l_To_takeNumber_5 FU s1
noncomputable def f_To_isSign (a1 : Int) (s0 : SS) : OO :=
  if a1 = 37 then (
    some (1, s0))
  else   if a1 = 40 then (
      some (1, s0))
  else   if a1 = 41 then (
        some (1, s0))
  else   if a1 = 42 then (
          some (1, s0))
  else   if a1 = 43 then (
            some (1, s0))
  else   if a1 = 45 then (
              some (1, s0))
  else   if a1 = 47 then (
                some (1, s0))
  else   if a1 = 59 then (
                  some (1, s0))
  else   if a1 = 60 then (
                    some (1, s0))
  else   if a1 = 61 then (
                      some (1, s0))
  else   if a1 = 62 then (
                        some (1, s0))
  else (
                        some (0, s0))
noncomputable def j_To_move_125  (z1 : Int) (s0 : SS) : OO :=
  os (si s0 43 3 z1) fun s1 =>
  some (0, s1)
noncomputable def j_To_move_38   (s0 : SS) : OO :=
  os (si s0 43 4 (gi s0 43 2)) fun s1 =>
  ob (f_To_sign (gi s1 43 2) s1) fun r2 s2 =>
  if (gi s2 43 2) < (gi s2 43 1) then (
    ob (f_To_isLetter r2 s2) fun r4 s4 =>
    if r4 = 0 then (
      ob (f_To_isDigit r2 s4) fun r6 s6 =>
      if r6 = 0 then (
        os (si s6 43 2 (iw ((gi s6 43 2) + 1))) fun s8 =>
        ob (f_To_isSign r2 s8) fun r9 s9 =>
        if r9 = 0 then (
          j_To_move_125 1 s9)
        else (
          j_To_move_125 r2 s9))
      else (
        ob (f_To_takeNumber s6) fun r11 s11 =>
        some (0, s11)))
    else (
      ob (f_To_takeWord s4) fun r12 s12 =>
      some (0, s12)))
  else (
    os (si s2 43 3 0) fun s13 =>
    some (0, s13))
noncomputable def l_To_move_0  : Nat → SS → OO
  | 0, _ => none
  | fu + 1, s0 =>
    if (gi s0 43 1) ≤ (gi s0 43 2) then (
      j_To_move_38 s0)
    else (
      ob (f_To_sign (gi s0 43 2) s0) fun r2 s2 =>
      ob (f_To_isBlank r2 s2) fun r3 s3 =>
      if r3 = 0 then (
        j_To_move_38 s3)
      else (
        os (si s3 43 2 (iw ((gi s3 43 2) + 1))) fun s5 =>
        (l_To_move_0 fu) s5))
noncomputable def f_To_move  (s0 : SS) : OO :=
  l_To_move_0 FU s0
noncomputable def f_To_open (a1 : Int) (s0 : SS) : OO :=
  ob (f_Qu_within 0 a1 1600 s0) fun r2 s2 =>
  os (si s2 43 1 r2) fun s3 =>
  os (si s3 43 2 0) fun s4 =>
  ob (f_To_move s4) fun r5 s5 =>
  some (0, s5)
noncomputable def f_FR_bindingOf (a1 : Int) (s0 : SS) : OO :=
  if a1 = 37 then (
    some (6, s0))
  else   if a1 = 42 then (
      some (6, s0))
  else   if a1 = 43 then (
        some (5, s0))
  else   if a1 = 45 then (
          some (5, s0))
  else   if a1 = 47 then (
            some (6, s0))
  else   if a1 = 60 then (
              some (4, s0))
  else   if a1 = 61 then (
                some (4, s0))
  else   if a1 = 62 then (
                  some (4, s0))
  else   if a1 = 271 then (
                    some (1, s0))
  else   if a1 = 272 then (
                      some (2, s0))
  else   if a1 = 273 then (
                        some (3, s0))
  else (
                        some (0, s0))
noncomputable def f_FR_bindingOnTop  (s0 : SS) : OO :=
  if (gi s0 44 2) ≤ 0 then (
    some (0, s0))
  else (
    if 60 < (gi s0 44 2) then (
      some (0, s0))
    else (
      oc (0 ≤ iw ((gi s0 44 2) - 1) ∧ iw ((gi s0 44 2) - 1) < 60) <|
      ob (f_FR_bindingOf (gi s0 45 ((iw ((gi s0 44 2) - 1)).toNat)) s0) fun r6 s6 =>
      some (r6, s6)))
noncomputable def l_FR_settle_0 (u1 : Nat) (y2 : Int) : Nat → SS → OO
  | 0, _ => none
  | fu + 1, s0 =>
    if (gi s0 44 2) ≤ 0 then (
      some (0, s0))
    else (
      if 60 < (gi s0 44 2) then (
        some (0, s0))
      else (
        ob (f_FR_bindingOnTop s0) fun r4 s4 =>
        if r4 < y2 then (
          some (0, s4))
        else (
          os (si s4 44 2 (iw ((gi s4 44 2) - 1))) fun s6 =>
          oc (0 ≤ gi s6 44 2 ∧ gi s6 44 2 < 60) <|
          ob (f_Fo_addOperator u1 (gi s6 45 ((gi s6 44 2).toNat)) s6) fun r9 s9 =>
          oc (0 ≤ gi s9 44 2 ∧ gi s9 44 2 < 60) <|
          if (gi s9 45 ((gi s9 44 2).toNat)) = 273 then (
            os (si s9 44 4 (iw ((gi s9 44 4) - 1))) fun s13 =>
            (l_FR_settle_0 u1 y2 fu) s13)
          else (
            (l_FR_settle_0 u1 y2 fu) s9))))
noncomputable def f_FR_settle (u1 : Nat) (a2 : Int) (s0 : SS) : OO :=
  l_FR_settle_0 u1 a2 FU s0
noncomputable def f_FR_await (a1 : Int) (s0 : SS) : OO :=
  if (gi s0 44 2) < 0 then (
    some (0, s0))
  else (
    if (gi s0 44 2) < 60 then (
      oc (0 ≤ gi s0 44 2 ∧ gi s0 44 2 < 60) <|
      os (si s0 45 ((gi s0 44 2).toNat) a1) fun s6 =>
      os (si s6 44 2 (iw ((gi s6 44 2) + 1))) fun s7 =>
      some (1, s7))
    else (
      some (0, s0)))
noncomputable def j_FR_readBehindUnit_107 (u1 : Nat) (x2 : Int) (x3 : Int) (s0 : SS) : OO :=
  ob (f_FR_await x2 s0) fun r1 s1 =>
  if r1 = 0 then (
    some ((-1), s1))
  else (
    if 3 ≤ x3 then (
      some (2, s1))
    else (
      some (1, s1)))
noncomputable def j_FR_readBehindUnit_89 (u1 : Nat) (x2 : Int) (x3 : Int) (z2 : Int) (s0 : SS) : OO :=
  ob (f_FR_settle u1 z2 s0) fun r1 s1 =>
  if x3 = 4 then (
    ob (f_FR_bindingOnTop s1) fun r3 s3 =>
    if r3 = 4 then (
      some ((-1), s3))
    else (
      j_FR_readBehindUnit_107 u1 x2 x3 s3))
  else (
    j_FR_readBehindUnit_107 u1 x2 x3 s1)
noncomputable def f_FR_readBehindUnit (u1 : Nat) (s0 : SS) : OO :=
  ol (gi s0 43 3) fun x2_ =>
  if x2_ = 41 then (
    if (gi s0 44 3) = 0 then (
      some ((-1), s0))
    else (
      ob (f_FR_settle u1 1 s0) fun r9 s9 =>
      os (si s9 44 2 (iw ((gi s9 44 2) - 1))) fun s10 =>
      os (si s10 44 3 (iw ((gi s10 44 3) - 1))) fun s11 =>
      os (si s11 44 4 (iw ((gi s11 44 4) - 1))) fun s12 =>
      some (3, s12)))
  else (
    ob (f_FR_bindingOf x2_ s0) fun r4 s4 =>
    if r4 = 0 then (
      some ((-1), s4))
    else (
      if r4 = 3 then (
        some ((-1), s4))
      else (
        if r4 = 4 then (
          j_FR_readBehindUnit_89 u1 x2_ r4 5 s4)
        else (
          j_FR_readBehindUnit_89 u1 x2_ r4 r4 s4))))
noncomputable def f_FR_nest (a1 : Int) (s0 : SS) : OO :=
  if 6 < (gi s0 44 4) then (
    some (0, s0))
  else (
    ob (f_FR_await a1 s0) fun r2 s2 =>
    if r2 = 0 then (
      some (0, s2))
    else (
      os (si s2 44 4 (iw ((gi s2 44 4) + 1))) fun s4 =>
      some (1, s4)))
noncomputable def f_FR_knownBy (a1 : Int) (s0 : SS) : OO :=
  if a1 = 263 then (
    some (2, s0))
  else   if a1 = 264 then (
      some (3, s0))
  else   if a1 = 268 then (
        some (0, s0))
  else   if a1 = 274 then (
          some (1, s0))
  else   if a1 = 275 then (
            some (4, s0))
  else   if a1 = 276 then (
              some (5, s0))
  else (
              some ((-1), s0))
noncomputable def j_FR_readUnit_128 (u1 : Nat)  (s0 : SS) : OO :=
  os (si s0 u1 3 (iw ((gi s0 u1 3) + 1))) fun s1 =>
  some (3, s1)
noncomputable def f_FR_readUnit (u1 : Nat) (a2 : Int) (s0 : SS) : OO :=
  ol (gi s0 43 3) fun x2_ =>
  if x2_ = 273 then (
    if a2 = 1 then (
      ob (f_FR_nest 273 s0) fun r17 s17 =>
      if r17 = 0 then (
        some ((-1), s17))
      else (
        some (1, s17)))
    else (
      some ((-1), s0)))
  else (
    if (gi s0 u1 3) < 30 then (
      if x2_ = 40 then (
        ob (f_FR_nest 40 s0) fun r12 s12 =>
        if r12 = 0 then (
          some ((-1), s12))
        else (
          os (si s12 44 3 (iw ((gi s12 44 3) + 1))) fun s14 =>
          os (si s14 u1 3 (iw ((gi s14 u1 3) + 1))) fun s15 =>
          some (1, s15)))
      else (
        ob (f_FR_knownBy x2_ s0) fun r6 s6 =>
        if x2_ = 2 then (
          ob (f_Fo_addNumber u1 (gi s6 43 5) s6) fun r11 s11 =>
          j_FR_readUnit_128 u1 s11)
        else (
          if r6 = (-1) then (
            some ((-1), s6))
          else (
            ob (f_Fo_addKnown u1 r6 s6) fun r9 s9 =>
            j_FR_readUnit_128 u1 s9))))
    else (
      some ((-1), s0)))
noncomputable def j_FR_readFormula_81 (u1 : Nat) (self23 : Int → Int → SS → OO) (x3 : Int) (z0 : Int) (s0 : SS) : OO :=
  if z0 = (-1) then (
    some (0, s0))
  else (
    ob (f_To_move s0) fun r3 s3 =>
    self23 z0 (iw (x3 + 1)) s3)
noncomputable def j_FR_readFormula_62 (u1 : Nat) (self23 : Int → Int → SS → OO) (x2 : Int) (x3 : Int) (s0 : SS) : OO :=
  if x2 = 3 then (
    ob (f_FR_readBehindUnit u1 s0) fun r3 s3 =>
    j_FR_readFormula_81 u1 self23 x3 r3 s3)
  else (
    ob (f_FR_readUnit u1 x2 s0) fun r2 s2 =>
    j_FR_readFormula_81 u1 self23 x3 r2 s2)
noncomputable def l_FR_readFormula_23 (u1 : Nat) : Nat → Int → Int → SS → OO
  | 0, _, _, _ => none
  | fu + 1, x2, x3, s0 =>
    if 1600 < x3 then (
      some (0, s0))
    else (
      if x2 = 3 then (
        if (gi s0 43 3) = 59 then (
          if (gi s0 44 3) = 0 then (
            ob (f_FR_settle u1 1 s0) fun r6 s6 =>
            some (1, s6))
          else (
            j_FR_readFormula_62 u1 (l_FR_readFormula_23 u1 fu) x2 x3 s0))
        else (
          j_FR_readFormula_62 u1 (l_FR_readFormula_23 u1 fu) x2 x3 s0))
      else (
        j_FR_readFormula_62 u1 (l_FR_readFormula_23 u1 fu) x2 x3 s0))
noncomputable def f_FR_readFormula (u1 : Nat) (s0 : SS) : OO :=
  ob (f_Fo_clear u1 s0) fun r1 s1 =>
  os (si s1 44 2 0) fun s2 =>
  os (si s2 44 3 0) fun s3 =>
  os (si s3 44 4 0) fun s4 =>
  l_FR_readFormula_23 u1 FU 1 0 s4
noncomputable def f_Re_fail (a1 : Int) (a2 : Int) (s0 : SS) : OO :=
  os (si s0 42 2 a1) fun s1 =>
  os (si s1 42 3 a2) fun s2 =>
  some (0, s2)
noncomputable def j_Re_refuse_17  (z1 : Int) (s0 : SS) : OO :=
  ob (f_Re_fail z1 (gi s0 43 4) s0) fun r2 s2 =>
  some (r2, s2)
noncomputable def f_Re_refuse  (s0 : SS) : OO :=
  if (gi s0 43 3) = 1 then (
    j_Re_refuse_17 1 s0)
  else (
    j_Re_refuse_17 2 s0)
noncomputable def l_Re_indexOf_3 (u1 : Nat) (y1 : Int) (y2 : Int) : Nat → Int → SS → OO
  | 0, _, _ => none
  | fu + 1, x4, s0 =>
    if y1 ≤ x4 then (
      some ((-1), s0))
    else (
      if ((rN u1 : Nat) : Int) ≤ x4 then (
        some ((-1), s0))
      else (
        oc (0 ≤ x4 ∧ x4 < ((rN u1 : Nat) : Int)) <|
        if (ycmp (gj s0 u1 ((x4).toNat)) y2) = 0 then (
          some (x4, s0))
        else (
          (l_Re_indexOf_3 u1 y1 y2 fu) (iw (x4 + 1)) s0)))
noncomputable def f_Re_indexOf (u1 : Nat) (a2 : Int) (a3 : Int) (s0 : SS) : OO :=
  l_Re_indexOf_3 u1 a2 a3 FU 0 s0
noncomputable def j_Re_readNewName_65 (u1 : Nat)  (s0 : SS) : OO :=
  ob (f_To_move s0) fun r2 s2 =>
  some (1, s2)
noncomputable def f_Re_readNewName (u1 : Nat) (a2 : Int) (s0 : SS) : OO :=
  if (gi s0 43 3) = 3 then (
    ob (f_Re_indexOf u1 a2 (gj s0 43 6) s0) fun r4 s4 =>
    if r4 = (-1) then (
      if a2 < 0 then (
        j_Re_readNewName_65 u1 s4)
      else (
        if ((rN u1 : Nat) : Int) ≤ a2 then (
          j_Re_readNewName_65 u1 s4)
        else (
          oc (0 ≤ a2 ∧ a2 < ((rN u1 : Nat) : Int)) <|
          os (sj s4 u1 ((a2).toNat) (gj s4 43 6)) fun s10 =>
          j_Re_readNewName_65 u1 s10)))
    else (
      ob (f_Re_fail 3 (gi s4 43 4) s4) fun r12 s12 =>
      some (r12, s12)))
  else (
    ob (f_Re_refuse s0) fun r13 s13 =>
    some (r13, s13))
noncomputable def f_Re_expect (a1 : Int) (s0 : SS) : OO :=
  if (gi s0 43 3) = a1 then (
    ob (f_To_move s0) fun r4 s4 =>
    some (1, s4))
  else (
    ob (f_Re_refuse s0) fun r5 s5 =>
    some (r5, s5))
noncomputable def j_Re_readNumber_38   (s0 : SS) : OO :=
  ob (f_Re_fail 4 (gi s0 43 4) s0) fun r2 s2 =>
  some (r2, s2)
noncomputable def f_Re_readNumber (a1 : Int) (a2 : Int) (s0 : SS) : OO :=
  if (gi s0 43 3) = 2 then (
    if (gi s0 43 5) < a1 then (
      j_Re_readNumber_38 s0)
    else (
      if (gi s0 43 5) ≤ a2 then (
        os (si s0 42 4 (gi s0 43 5)) fun s8 =>
        ob (f_To_move s8) fun r10 s10 =>
        some (1, s10))
      else (
        j_Re_readNumber_38 s0)))
  else (
    ob (f_Re_refuse s0) fun r11 s11 =>
    some (r11, s11))
noncomputable def f_Re_readNumberBehind (a1 : Int) (a2 : Int) (a3 : Int) (s0 : SS) : OO :=
  ob (f_Re_expect a1 s0) fun r1 s1 =>
  if r1 = 0 then (
    some (0, s1))
  else (
    ob (f_Re_readNumber a2 a3 s1) fun r3 s3 =>
    if r3 = 0 then (
      some (0, s3))
    else (
      some (1, s3)))
noncomputable def j_Re_readPlace_15 (u1 : Nat)  (s0 : SS) : OO :=
  ob (f_Re_refuse s0) fun r1 s1 =>
  some (r1, s1)
noncomputable def j_Re_readPlace_131 (u1 : Nat)  (s0 : SS) : OO :=
  os (si s0 u1 0 (iw ((gi s0 u1 0) + 1))) fun s1 =>
  some (1, s1)
noncomputable def j_Re_readPlace_93 (u1 : Nat) (x2 : Int) (s0 : SS) : OO :=
  if (gi s0 43 3) = 258 then (
    ob (f_Re_readNumberBehind 258 0 9 s0) fun r3 s3 =>
    if r3 = 0 then (
      some (0, s3))
    else (
      oc (0 ≤ x2 ∧ x2 < 8) <|
      os (si s3 (u1 + 3) ((x2).toNat) (gi s3 42 4)) fun s7 =>
      j_Re_readPlace_131 u1 s7))
  else (
    j_Re_readPlace_131 u1 s0)
noncomputable def f_Re_readPlace (u1 : Nat) (s0 : SS) : OO :=
  ol (gi s0 u1 0) fun x1_ =>
  if x1_ < 0 then (
    j_Re_readPlace_15 u1 s0)
  else (
    if x1_ < 8 then (
      ob (f_To_move s0) fun r5 s5 =>
      ob (f_Re_readNewName (u1 + 1) x1_ s5) fun r7 s7 =>
      if r7 = 0 then (
        some (0, s7))
      else (
        oc (0 ≤ x1_ ∧ x1_ < 8) <|
        os (si s7 (u1 + 2) ((x1_).toNat) 0) fun s11 =>
        oc (0 ≤ x1_ ∧ x1_ < 8) <|
        os (si s11 (u1 + 3) ((x1_).toNat) 0) fun s14 =>
        if (gi s14 43 3) = 257 then (
          ob (f_Re_readNumberBehind 257 0 9 s14) fun r17 s17 =>
          if r17 = 0 then (
            some (0, s17))
          else (
            oc (0 ≤ x1_ ∧ x1_ < 8) <|
            os (si s17 (u1 + 2) ((x1_).toNat) (gi s17 42 4)) fun s21 =>
            j_Re_readPlace_93 u1 x1_ s21))
        else (
          j_Re_readPlace_93 u1 x1_ s14)))
    else (
      j_Re_readPlace_15 u1 s0))
noncomputable def f_Re_readPlaceName (u1 : Nat) (a2 : Int) (s0 : SS) : OO :=
  if (gi s0 43 3) = 3 then (
    ob (f_Re_indexOf (u1 + 1) (gi s0 u1 0) (gj s0 43 6) s0) fun r5 s5 =>
    if r5 = (-1) then (
      ob (f_Re_fail 5 (gi s5 43 4) s5) fun r14 s14 =>
      some (r14, s14))
    else (
      if r5 = a2 then (
        ob (f_Re_fail 3 (gi s5 43 4) s5) fun r12 s12 =>
        some (r12, s12))
      else (
        os (si s5 42 4 r5) fun s8 =>
        ob (f_To_move s8) fun r10 s10 =>
        some (1, s10))))
  else (
    ob (f_Re_refuse s0) fun r15 s15 =>
    some (r15, s15))
noncomputable def j_Re_readSight_95  (z1 : Int) (s0 : SS) : OO :=
  os (si s0 42 4 z1) fun s1 =>
  ob (f_To_move s1) fun r3 s3 =>
  some (1, s3)
noncomputable def j_Re_readSight_37  (x1 : Int) (x2 : Int) (s0 : SS) : OO :=
  if (gi s0 43 3) = 2 then (
    if (gi s0 43 5) ≤ 9 then (
      if x2 = 0 then (
        j_Re_readSight_95 (gi s0 43 5) s0)
      else (
        j_Re_readSight_95 (iw (-(gi s0 43 5))) s0))
    else (
      ob (f_Re_fail 4 x1 s0) fun r8 s8 =>
      some (r8, s8)))
  else (
    ob (f_Re_refuse s0) fun r9 s9 =>
    some (r9, s9))
noncomputable def j_Re_readSight_25  (x1 : Int) (z0 : Int) (s0 : SS) : OO :=
  if z0 = 0 then (
    j_Re_readSight_37 x1 z0 s0)
  else (
    ob (f_To_move s0) fun r3 s3 =>
    j_Re_readSight_37 x1 z0 s3)
noncomputable def f_Re_readSight  (s0 : SS) : OO :=
  ol (gi s0 43 4) fun x2_ =>
  if (gi s0 43 3) = 45 then (
    j_Re_readSight_25 x2_ 1 s0)
  else (
    j_Re_readSight_25 x2_ 0 s0)
noncomputable def j_Re_readWay_15 (u1 : Nat)  (s0 : SS) : OO :=
  ob (f_Re_refuse s0) fun r1 s1 =>
  some (r1, s1)
noncomputable def j_Re_readWay_152 (u1 : Nat)  (s0 : SS) : OO :=
  os (si s0 u1 4 (iw ((gi s0 u1 4) + 1))) fun s1 =>
  some (1, s1)
noncomputable def f_Re_readWay (u1 : Nat) (s0 : SS) : OO :=
  ol (gi s0 u1 4) fun x1_ =>
  if x1_ < 0 then (
    j_Re_readWay_15 u1 s0)
  else (
    if x1_ < 14 then (
      ob (f_To_move s0) fun r5 s5 =>
      ob (f_Re_readPlaceName u1 (-1) s5) fun r6 s6 =>
      if r6 = 0 then (
        some (0, s6))
      else (
        oc (0 ≤ x1_ ∧ x1_ < 14) <|
        os (si s6 (u1 + 4) ((x1_).toNat) (gi s6 42 4)) fun s10 =>
        ob (f_Re_expect 260 s10) fun r11 s11 =>
        if r11 = 0 then (
          some (0, s11))
        else (
          oc (0 ≤ x1_ ∧ x1_ < 14) <|
          ob (f_Re_readPlaceName u1 (gi s11 (u1 + 4) ((x1_).toNat)) s11) fun r15 s15 =>
          if r15 = 0 then (
            some (0, s15))
          else (
            oc (0 ≤ x1_ ∧ x1_ < 14) <|
            os (si s15 (u1 + 5) ((x1_).toNat) (gi s15 42 4)) fun s19 =>
            ob (f_Re_readNumber 1 40 s19) fun r20 s20 =>
            if r20 = 0 then (
              some (0, s20))
            else (
              oc (0 ≤ x1_ ∧ x1_ < 14) <|
              os (si s20 (u1 + 6) ((x1_).toNat) (gi s20 42 4)) fun s24 =>
              oc (0 ≤ x1_ ∧ x1_ < 14) <|
              os (si s24 (u1 + 7) ((x1_).toNat) 0) fun s27 =>
              if (gi s27 43 3) = 261 then (
                ob (f_To_move s27) fun r31 s31 =>
                ob (f_Re_readSight s31) fun r32 s32 =>
                if r32 = 0 then (
                  some (0, s32))
                else (
                  oc (0 ≤ x1_ ∧ x1_ < 14) <|
                  os (si s32 (u1 + 7) ((x1_).toNat) (gi s32 42 4)) fun s36 =>
                  j_Re_readWay_152 u1 s36))
              else (
                j_Re_readWay_152 u1 s27))))))
    else (
      j_Re_readWay_15 u1 s0))
noncomputable def j_Re_readSoul_15 (u1 : Nat)  (s0 : SS) : OO :=
  ob (f_Re_refuse s0) fun r1 s1 =>
  some (r1, s1)
noncomputable def f_Re_readSoul (u1 : Nat) (s0 : SS) : OO :=
  ol (gi s0 u1 9) fun x1_ =>
  if x1_ < 0 then (
    j_Re_readSoul_15 u1 s0)
  else (
    if x1_ < 6 then (
      ob (f_To_move s0) fun r5 s5 =>
      ob (f_Re_readNewName (u1 + 8) x1_ s5) fun r7 s7 =>
      if r7 = 0 then (
        some (0, s7))
      else (
        ob (f_Re_readNumberBehind 263 0 9 s7) fun r9 s9 =>
        if r9 = 0 then (
          some (0, s9))
        else (
          oc (0 ≤ iw (2 * x1_) ∧ iw (2 * x1_) < 12) <|
          os (si s9 (u1 + 9) ((iw (2 * x1_)).toNat) (gi s9 42 4)) fun s13 =>
          ob (f_Re_readNumberBehind 264 0 9 s13) fun r14 s14 =>
          if r14 = 0 then (
            some (0, s14))
          else (
            oc (0 ≤ iw ((iw (2 * x1_)) + 1) ∧ iw ((iw (2 * x1_)) + 1) < 12) <|
            os (si s14 (u1 + 9) ((iw ((iw (2 * x1_)) + 1)).toNat) (gi s14 42 4)) fun s18 =>
            os (si s18 u1 9 (iw ((gi s18 u1 9) + 1))) fun s19 =>
            some (1, s19)))))
    else (
      j_Re_readSoul_15 u1 s0))
noncomputable def j_Re_readMatter_144 (u1 : Nat) (x2 : Int) (x3 : Int) (s0 : SS) : OO :=
  oc (0 ≤ x2 ∧ x2 < 6) <|
  os (si s0 (u1 + 12) ((x2).toNat) x3) fun s3 =>
  os (si s3 u1 12 (iw ((gi s3 u1 12) + 1))) fun s4 =>
  some (1, s4)
noncomputable def l_Re_readMatter_94 (u1 : Nat) (y2 : Int) : Nat → Int → SS → OO
  | 0, _, _ => none
  | fu + 1, x3, s0 =>
    if 8 ≤ x3 then (
      j_Re_readMatter_144 u1 y2 x3 s0)
    else (
      if (gi s0 43 3) = 2 then (
        ob (f_Re_readNumber 1 9 s0) fun r4 s4 =>
        if r4 = 0 then (
          some (0, s4))
        else (
          oc (0 ≤ iw ((iw (y2 * 8)) + x3) ∧ iw ((iw (y2 * 8)) + x3) < 48) <|
          os (si s4 (u1 + 13) ((iw ((iw (y2 * 8)) + x3)).toNat) (gi s4 42 4)) fun s8 =>
          (l_Re_readMatter_94 u1 y2 fu) (iw (x3 + 1)) s8))
      else (
        j_Re_readMatter_144 u1 y2 x3 s0))
noncomputable def j_Re_readMatter_15 (u1 : Nat)  (s0 : SS) : OO :=
  ob (f_Re_refuse s0) fun r1 s1 =>
  some (r1, s1)
noncomputable def f_Re_readMatter (u1 : Nat) (s0 : SS) : OO :=
  ol (gi s0 u1 12) fun x1_ =>
  if x1_ < 0 then (
    j_Re_readMatter_15 u1 s0)
  else (
    if x1_ < 6 then (
      ob (f_To_move s0) fun r5 s5 =>
      ob (f_Re_readNewName (u1 + 10) x1_ s5) fun r7 s7 =>
      if r7 = 0 then (
        some (0, s7))
      else (
        ob (f_Re_readNumberBehind 266 1 99 s7) fun r9 s9 =>
        if r9 = 0 then (
          some (0, s9))
        else (
          oc (0 ≤ x1_ ∧ x1_ < 6) <|
          os (si s9 (u1 + 11) ((x1_).toNat) (gi s9 42 4)) fun s13 =>
          ob (f_Re_readNumberBehind 267 1 9 s13) fun r14 s14 =>
          if r14 = 0 then (
            some (0, s14))
          else (
            oc (0 ≤ iw (x1_ * 8) ∧ iw (x1_ * 8) < 48) <|
            os (si s14 (u1 + 13) ((iw (x1_ * 8)).toNat) (gi s14 42 4)) fun s18 =>
            l_Re_readMatter_94 u1 x1_ FU 1 s18))))
    else (
      j_Re_readMatter_15 u1 s0))
noncomputable def f_Re_readRule (u1 : Nat) (s0 : SS) : OO :=
  ob (f_Fo_isTold u1 s0) fun r1 s1 =>
  if r1 = 0 then (
    ob (f_To_move s1) fun r4 s4 =>
    ob (f_FR_readFormula u1 s4) fun r6 s6 =>
    if r6 = 0 then (
      ob (f_Re_refuse s6) fun r8 s8 =>
      if r8 = 0 then (
        some (0, s8))
      else (
        some (1, s8)))
    else (
      some (1, s6)))
  else (
    ob (f_Re_refuse s1) fun r10 s10 =>
    some (r10, s10))
noncomputable def f_Re_readDraw (u1 : Nat) (s0 : SS) : OO :=
  if (gi s0 42 5) = 0 then (
    os (si s0 42 5 1) fun s2 =>
    ob (f_Re_readNumberBehind 270 0 999 s2) fun r3 s3 =>
    if r3 = 0 then (
      some (0, s3))
    else (
      os (si s3 u1 17 (gi s3 42 4)) fun s5 =>
      some (1, s5)))
  else (
    ob (f_Re_refuse s0) fun r6 s6 =>
    some (r6, s6))
noncomputable def j_Re_readLand_210 (u1 : Nat) (self32 : Int → Int → SS → OO) (x3 : Int) (x4 : Int) (s0 : SS) : OO :=
  if x3 = 0 then (
    self32 0 (iw (x4 + 1)) s0)
  else (
    ob (f_Re_expect 59 s0) fun r2 s2 =>
    if r2 = 0 then (
      self32 0 (iw (x4 + 1)) s2)
    else (
      self32 1 (iw (x4 + 1)) s2))
noncomputable def l_Re_readLand_32 (u1 : Nat) : Nat → Int → Int → SS → OO
  | 0, _, _, _ => none
  | fu + 1, x3, x4, s0 =>
    if 1600 < x4 then (
      oc (x3 = 0 ∨ x3 = 1) <|
      some (x3, s0))
    else (
      if x3 = 0 then (
        oc (x3 = 0 ∨ x3 = 1) <|
        some (x3, s0))
      else (
        if (gi s0 43 3) = 0 then (
          oc (x3 = 0 ∨ x3 = 1) <|
          some (x3, s0))
        else (
          if gi s0 43 3 = 256 then (
            ob (f_Re_readPlace u1 s0) fun r10 s10 =>
            j_Re_readLand_210 u1 (l_Re_readLand_32 u1 fu) r10 x4 s10)
          else           if gi s0 43 3 = 259 then (
              ob (f_Re_readWay u1 s0) fun r12 s12 =>
              j_Re_readLand_210 u1 (l_Re_readLand_32 u1 fu) r12 x4 s12)
          else           if gi s0 43 3 = 262 then (
                ob (f_Re_readSoul u1 s0) fun r14 s14 =>
                j_Re_readLand_210 u1 (l_Re_readLand_32 u1 fu) r14 x4 s14)
          else           if gi s0 43 3 = 265 then (
                  ob (f_Re_readMatter u1 s0) fun r16 s16 =>
                  j_Re_readLand_210 u1 (l_Re_readLand_32 u1 fu) r16 x4 s16)
          else           if gi s0 43 3 = 268 then (
                    ob (f_Re_readRule (u1 + 14) s0) fun r19 s19 =>
                    j_Re_readLand_210 u1 (l_Re_readLand_32 u1 fu) r19 x4 s19)
          else           if gi s0 43 3 = 269 then (
                      ob (f_Re_readRule (u1 + 17) s0) fun r22 s22 =>
                      j_Re_readLand_210 u1 (l_Re_readLand_32 u1 fu) r22 x4 s22)
          else           if gi s0 43 3 = 270 then (
                        ob (f_Re_readDraw u1 s0) fun r24 s24 =>
                        j_Re_readLand_210 u1 (l_Re_readLand_32 u1 fu) r24 x4 s24)
          else (
                        ob (f_Re_refuse s0) fun r25 s25 =>
                        j_Re_readLand_210 u1 (l_Re_readLand_32 u1 fu) r25 x4 s25))))
noncomputable def f_Re_readLand (u1 : Nat) (a2 : Int) (s0 : SS) : OO :=
  ob (f_La_clear u1 s0) fun r1 s1 =>
  os (si s1 42 2 0) fun s2 =>
  os (si s2 42 3 (-1)) fun s3 =>
  os (si s3 42 5 0) fun s4 =>
  ob (f_To_open a2 s4) fun r6 s6 =>
  l_Re_readLand_32 u1 FU 1 0 s6
set_option maxRecDepth 20000 in
theorem m_To_sign {l : Launch} {D : va_G} {cs : Nat → ClassId} {aS aV : Nat} {A : Nat → Prop} {ad : Nat → Nat} {n : Nat} {nl : Nat → Nat → Bool} {out : Int × SS} (hw : w_WH n nl) (ht : 43 < n) {a1 : Int} (ra1 : rI a1) {s0 : SS} (hs0 : rS s0) (hf : f_To_sign a1 s0 = some out) : w_MC l D cs aS aV A yX10_sign cX10_sign 2 1 rm_To_sign ad n nl [.ref (ad 43), .int (vI a1)] s0 (w_Po ad n nl out) := by
  refine w_MC_of (by decide +kernel) (by decide) hs0 (Nat.le_of_ble_eq_true rfl) (fun K h hr => ?_)
  refine r_lv (lv' := [(0, .ref (ad 43)), (1, .int (vI a1))]) rfl ?_
  unfold f_To_sign at hf
  refine r_rS h (fun hs0 => ?_)
  refine r_iload_n h dX10_sign_0 rfl 1 rfl ?_
  refine r_if_lt (tgt := 30) h dX10_sign_1 (by decide) ra1 (fun hc1 => ?_) (fun hc1 => ?_)
  · have hf := ite_t hc1 hf
    refine r_iconst h dX10_sign_30 ?_
    exact r_ret1 hr dX10_sign_31 (rIc rfl) hf
  · have hf := ite_f hc1 hf
    refine r_iload_n h dX10_sign_4 rfl 1 rfl ?_
    refine r_aload_n h dX10_sign_5 rfl 0 rfl ?_
    refine g_X10_19 h dX10_sign_6 ht rC_43 ?_
    refine r_icmp_ge (tgt := 30) h dX10_sign_9 (by decide) ra1 (hs0.1 _ _) (fun hc2 => ?_) (fun hc2 => ?_)
    · have hf := ite_t hc2 hf
      refine r_iconst h dX10_sign_30 ?_
      exact r_ret1 hr dX10_sign_31 (rIc rfl) hf
    · have hf := ite_f hc2 hf
      refine r_iload_n h dX10_sign_12 rfl 1 rfl ?_
      refine r_aload_n h dX10_sign_13 rfl 0 rfl ?_
      have hq3 := w_ref hw ht rC_43 (by decide) (k := 0) (by decide) rf_10_0
      refine g_X10_9 h dX10_sign_14 ht rC_43 hq3.1 ?_
      refine r_alen (N := 1600) h dX10_sign_17 hq3.2 rC_1 (Or.inl rfl) (by rw [rN_1]; rfl) ?_
      refine r_icmp_ge (tgt := 30) h dX10_sign_18 (by decide) ra1 (rIc rfl) (fun hc4 => ?_) (fun hc4 => ?_)
      · have hf := ite_t hc4 hf
        refine r_iconst h dX10_sign_30 ?_
        exact r_ret1 hr dX10_sign_31 (rIc rfl) hf
      · have hf := ite_f hc4 hf
        refine r_aload_n h dX10_sign_21 rfl 0 rfl ?_
        have hq5 := w_ref hw ht rC_43 (by decide) (k := 0) (by decide) rf_10_0
        refine g_X10_9 h dX10_sign_22 ht rC_43 hq5.1 ?_
        refine r_iload_n h dX10_sign_25 rfl 1 rfl ?_
        obtain ⟨hi6, hf⟩ := oc_some hf
        refine r_bald h dX10_sign_26 hq5.2 rC_1 ra1 (N := 1600) (by rw [rN_1]; rfl) (j := (a1).toNat) rfl hi6 ?_
        refine r_goto (tgt := 31) h dX10_sign_27 (by decide) ?_
        exact r_ret1 hr dX10_sign_31 (hs0.1 _ _) hf
set_option maxRecDepth 20000 in
theorem m_To_isBlank {l : Launch} {D : va_G} {cs : Nat → ClassId} {aS aV : Nat} {A : Nat → Prop} {ad : Nat → Nat} {n : Nat} {nl : Nat → Nat → Bool} {out : Int × SS} (hw : w_WH n nl) {a1 : Int} (ra1 : rI a1) {s0 : SS} (hs0 : rS s0) (hf : f_To_isBlank a1 s0 = some out) : w_MC l D cs aS aV A yX10_isBlank cX10_isBlank 1 2 rm_To_isBlank ad n nl [.int (vI a1)] s0 (w_Po ad n nl out) := by
  refine w_MC_of (by decide +kernel) (by decide) hs0 (Nat.le_of_ble_eq_true rfl) (fun K h hr => ?_)
  refine r_lv (lv' := [(0, .int (vI a1))]) rfl ?_
  unfold f_To_isBlank at hf
  refine r_rS h (fun hs0 => ?_)
  refine r_iload_n h dX10_isBlank_0 rfl 0 rfl ?_
  refine r_bipush h dX10_isBlank_1 (by decide) ?_
  refine r_icmp_eq (tgt := 12) h dX10_isBlank_3 (by decide) ra1 (rIc rfl) (fun hc1 => ?_) (fun hc1 => ?_)
  · have hf := ite_t hc1 hf
    refine r_iconst h dX10_isBlank_12 ?_
    refine r_goto (tgt := 17) h dX10_isBlank_13 (by decide) ?_
    exact r_ret2 hr dX10_isBlank_17 (Or.inr rfl) hf
  · have hf := ite_f hc1 hf
    refine r_iload_n h dX10_isBlank_6 rfl 0 rfl ?_
    refine r_bipush h dX10_isBlank_7 (by decide) ?_
    refine r_icmp_ne (tgt := 16) h dX10_isBlank_9 (by decide) ra1 (rIc rfl) (fun hc2 => ?_) (fun hc2 => ?_)
    · have hf := ite_f hc2 hf
      refine r_iconst h dX10_isBlank_16 ?_
      exact r_ret2 hr dX10_isBlank_17 (Or.inl rfl) hf
    · have hf := ite_nf hc2 hf
      refine r_iconst h dX10_isBlank_12 ?_
      refine r_goto (tgt := 17) h dX10_isBlank_13 (by decide) ?_
      exact r_ret2 hr dX10_isBlank_17 (Or.inr rfl) hf
set_option maxRecDepth 20000 in
theorem m_To_isLetter {l : Launch} {D : va_G} {cs : Nat → ClassId} {aS aV : Nat} {A : Nat → Prop} {ad : Nat → Nat} {n : Nat} {nl : Nat → Nat → Bool} {out : Int × SS} (hw : w_WH n nl) {a1 : Int} (ra1 : rI a1) {s0 : SS} (hs0 : rS s0) (hf : f_To_isLetter a1 s0 = some out) : w_MC l D cs aS aV A yX10_isLetter cX10_isLetter 1 2 rm_To_isLetter ad n nl [.int (vI a1)] s0 (w_Po ad n nl out) := by
  refine w_MC_of (by decide +kernel) (by decide) hs0 (Nat.le_of_ble_eq_true rfl) (fun K h hr => ?_)
  refine r_lv (lv' := [(0, .int (vI a1))]) rfl ?_
  unfold f_To_isLetter at hf
  refine r_rS h (fun hs0 => ?_)
  refine r_iload_n h dX10_isLetter_0 rfl 0 rfl ?_
  refine r_bipush h dX10_isLetter_1 (by decide) ?_
  refine r_icmp_lt (tgt := 16) h dX10_isLetter_3 (by decide) ra1 (rIc rfl) (fun hc1 => ?_) (fun hc1 => ?_)
  · have hf := ite_t hc1 hf
    refine r_iconst h dX10_isLetter_16 ?_
    exact r_ret2 hr dX10_isLetter_17 (Or.inl rfl) hf
  · have hf := ite_f hc1 hf
    refine r_iload_n h dX10_isLetter_6 rfl 0 rfl ?_
    refine r_bipush h dX10_isLetter_7 (by decide) ?_
    refine r_icmp_gt (tgt := 16) h dX10_isLetter_9 (by decide) ra1 (rIc rfl) (fun hc2 => ?_) (fun hc2 => ?_)
    · have hf := ite_t hc2 hf
      refine r_iconst h dX10_isLetter_16 ?_
      exact r_ret2 hr dX10_isLetter_17 (Or.inl rfl) hf
    · have hf := ite_f hc2 hf
      refine r_iconst h dX10_isLetter_12 ?_
      refine r_goto (tgt := 17) h dX10_isLetter_13 (by decide) ?_
      exact r_ret2 hr dX10_isLetter_17 (Or.inr rfl) hf
set_option maxRecDepth 20000 in
theorem b_To_takeWord_102 {l : Launch} {D : va_G} {cs : Nat → ClassId} {aS aV : Nat} {A : Nat → Prop} {K : KT} {ad : Nat → Nat} {n : Nat} {nl : Nat → Nat → Bool} {out : Int × SS} (h : w_Cl l rm_To_takeWord D cs aS aV A cX10_takeWord 6 RX10 "takeWord" K) (hr : w_Rt 0 cX10_takeWord 0 0 (w_Po ad n nl out) K) (hw : w_WH n nl) (ht : 43 < n) : ∀ (fu : Nat) (x1 : Int) (x2 : Int) (x4 : Int) (s0 : SS), rI x1 → rJ x2 → rI x4 → l_To_takeWord_102 fu x1 x2 x4 s0 = some out → K ad n nl 0 0 102 [(0, .ref (ad 43)), (1, .int (vI x1)), (2, .long (vJ x2)), (4, .int (vI x4))] [] s0 := by
  intro fu
  induction fu with
  | zero =>
    intro x1 x2 x4 s0 rx1 rx2 rx4 hf
    rw [l_To_takeWord_102] at hf
    cases hf
  | succ fu ih =>
    intro x1 x2 x4 s0 rx1 rx2 rx4 hf
    rw [l_To_takeWord_102] at hf
    refine r_rS h (fun hs0 => ?_)
    refine r_iload h dX10_takeWord_102 3 rfl ?_
    refine r_ldcS h dX10_takeWord_104 ?_
    refine r_kwlen h dX10_takeWord_106 ⟨Nat.le_of_ble_eq_true rfl, Nat.le_of_ble_eq_true rfl⟩ ⟨Nat.le_of_ble_eq_true rfl, Nat.le_of_ble_eq_true rfl⟩ (Nat.le_of_ble_eq_true rfl) ?_
    refine r_icmp_ge (tgt := 182) h dX10_takeWord_109 (by decide) rx4 (rIc rfl) (fun hc1 => ?_) (fun hc1 => ?_)
    · have hf := ite_t hc1 hf
      exact r_ret0 (x := 0) hr dX10_takeWord_182 hf
    · have hf := ite_f hc1 hf
      refine r_aload_n h dX10_takeWord_112 rfl 0 rfl ?_
      refine g_X10_40 h dX10_takeWord_113 ht rC_43 ?_
      refine r_iconst h dX10_takeWord_116 ?_
      refine r_icmp_ne (tgt := 182) h dX10_takeWord_117 (by decide) (hs0.1 _ _) (rIc rfl) (fun hc2 => ?_) (fun hc2 => ?_)
      · have hf := ite_f hc2 hf
        exact r_ret0 (x := 0) hr dX10_takeWord_182 hf
      · have hf := ite_nf hc2 hf
        refine r_ldcS h dX10_takeWord_120 ?_
        refine r_iload h dX10_takeWord_122 3 rfl ?_
        obtain ⟨hi3, hf⟩ := oc_some hf
        refine r_kwat h dX10_takeWord_124 rx4 hi3 ⟨Nat.le_of_ble_eq_true rfl, Nat.le_of_ble_eq_true rfl⟩ ⟨Nat.le_of_ble_eq_true rfl, Nat.le_of_ble_eq_true rfl⟩ (Nat.le_of_ble_eq_true rfl) ?_
        refine r_ol hf (rI_kwc _) (fun x4_ rx4_ hf => ?_)
        refine r_istore h [(5, .int (vI x4_)), (0, .ref (ad 43)), (1, .int (vI x1)), (2, .long (vJ x2)), (4, .int (vI x4))] dX10_takeWord_127 (by decide) rfl ?_
        refine r_iload h dX10_takeWord_129 0 rfl ?_
        refine r_bipush h dX10_takeWord_131 (by decide) ?_
        refine r_icmp_eq (tgt := 154) h dX10_takeWord_133 (by decide) rx4_ (rIc rfl) (fun hc5 => ?_) (fun hc5 => ?_)
        · have hf := ite_t hc5 hf
          refine r_lload_n h dX10_takeWord_154 rfl 3 rfl ?_
          refine r_aload_n h dX10_takeWord_155 rfl 1 rfl ?_
          refine g_X10_58 h dX10_takeWord_156 ht rC_43 ?_
          refine r_lcmp h dX10_takeWord_159 rx2 (hs0.2 _ _) ?_
          refine r_if_ne (tgt := 171) h dX10_takeWord_160 (by decide) (rI_ycmp _ _) (fun hc6 => ?_) (fun hc6 => ?_)
          · have hf := ite_f hc6 hf
            refine r_iinc h [(1, .int (vI (iw (x1 + 1)))), (5, .int (vI x4_)), (0, .ref (ad 43)), (2, .long (vJ x2)), (4, .int (vI x4))] dX10_takeWord_171 2 rfl (by decide) rfl ?_
            refine r_lconst (x := 0) h dX10_takeWord_174 (by decide) ?_
            refine r_lstore_n h [(2, .long (vJ 0)), (1, .int (vI (iw (x1 + 1)))), (5, .int (vI x4_)), (0, .ref (ad 43)), (4, .int (vI x4))] dX10_takeWord_175 rfl (by decide) rfl ?_
            refine r_iinc h [(4, .int (vI (iw (x4 + 1)))), (2, .long (vJ 0)), (1, .int (vI (iw (x1 + 1)))), (5, .int (vI x4_)), (0, .ref (ad 43))] dX10_takeWord_176 4 rfl (by decide) rfl ?_
            refine r_goto (tgt := 102) h dX10_takeWord_179 (by decide) ?_
            refine r_sub h [4, 2, 1, 0] rfl ?_
            exact ih (iw (x1 + 1)) 0 (iw (x4 + 1)) s0 (rI_iw _) (rJc rfl) (rI_iw _) hf
          · have hf := ite_nf hc6 hf
            refine r_aload_n h dX10_takeWord_163 rfl 1 rfl ?_
            refine r_iload_n h dX10_takeWord_164 rfl 2 rfl ?_
            refine p_X10_40 h dX10_takeWord_165 ht rC_43 rx1 ?_
            refine r_os hf (fun s7 hf => ?_)
            refine r_rS h (fun hs7 => ?_)
            refine r_goto (tgt := 176) h dX10_takeWord_168 (by decide) ?_
            refine r_iinc h [(4, .int (vI (iw (x4 + 1)))), (5, .int (vI x4_)), (0, .ref (ad 43)), (1, .int (vI x1)), (2, .long (vJ x2))] dX10_takeWord_176 4 rfl (by decide) rfl ?_
            refine r_goto (tgt := 102) h dX10_takeWord_179 (by decide) ?_
            refine r_sub h [2, 3, 4, 0] rfl ?_
            exact ih x1 x2 (iw (x4 + 1)) s7 rx1 rx2 (rI_iw _) hf
        · have hf := ite_f hc5 hf
          refine r_ldc2 (x := 32) h dX10_takeWord_136 (gt_in3 119 rfl rfl) rfl ?_
          refine r_lload_n h dX10_takeWord_139 rfl 3 rfl ?_
          refine r_lmul h dX10_takeWord_140 ?_
          refine r_iload h dX10_takeWord_141 0 rfl ?_
          refine r_bipush h dX10_takeWord_143 (by decide) ?_
          refine r_isub h dX10_takeWord_145 ?_
          refine r_iconst h dX10_takeWord_146 ?_
          refine r_iadd h dX10_takeWord_147 ?_
          refine r_i2l h dX10_takeWord_148 (rI_iw _) ?_
          refine r_ladd h dX10_takeWord_149 ?_
          refine r_olJ hf (rJ_jw _) (fun x8_ rx8_ hf => ?_)
          refine r_lstore_n h [(2, .long (vJ x8_)), (5, .int (vI x4_)), (0, .ref (ad 43)), (1, .int (vI x1)), (4, .int (vI x4))] dX10_takeWord_150 rfl (by decide) rfl ?_
          refine r_goto (tgt := 176) h dX10_takeWord_151 (by decide) ?_
          refine r_iinc h [(4, .int (vI (iw (x4 + 1)))), (2, .long (vJ x8_)), (5, .int (vI x4_)), (0, .ref (ad 43)), (1, .int (vI x1))] dX10_takeWord_176 4 rfl (by decide) rfl ?_
          refine r_goto (tgt := 102) h dX10_takeWord_179 (by decide) ?_
          refine r_sub h [3, 4, 1, 0] rfl ?_
          exact ih x1 x8_ (iw (x4 + 1)) s0 rx1 rx8_ (rI_iw _) hf
set_option maxRecDepth 20000 in
theorem b_To_takeWord_90 {l : Launch} {D : va_G} {cs : Nat → ClassId} {aS aV : Nat} {A : Nat → Prop} {K : KT} {ad : Nat → Nat} {n : Nat} {nl : Nat → Nat → Bool} {out : Int × SS} (h : w_Cl l rm_To_takeWord D cs aS aV A cX10_takeWord 6 RX10 "takeWord" K) (hr : w_Rt 0 cX10_takeWord 0 0 (w_Po ad n nl out) K) (hw : w_WH n nl) (ht : 43 < n) (z1 : Int) (s0 : SS) (rz1 : rI z1) (hf : j_To_takeWord_90 z1 s0 = some out) : K ad n nl 0 0 90 [(0, .ref (ad 43))] [.int (vI z1), .ref (ad 43)] s0 := by
  unfold j_To_takeWord_90 at hf
  refine r_rS h (fun hs0 => ?_)
  refine p_X10_40 h dX10_takeWord_90 ht rC_43 rz1 ?_
  refine r_os hf (fun s1 hf => ?_)
  refine r_rS h (fun hs1 => ?_)
  refine r_sipush h dX10_takeWord_93 (by decide) ?_
  refine r_istore_n h [(1, .int (vI 256)), (0, .ref (ad 43))] dX10_takeWord_96 rfl (by decide) rfl ?_
  refine r_lconst (x := 0) h dX10_takeWord_97 (by decide) ?_
  refine r_lstore_n h [(2, .long (vJ 0)), (1, .int (vI 256)), (0, .ref (ad 43))] dX10_takeWord_98 rfl (by decide) rfl ?_
  refine r_iconst h dX10_takeWord_99 ?_
  refine r_istore h [(4, .int (vI 0)), (2, .long (vJ 0)), (1, .int (vI 256)), (0, .ref (ad 43))] dX10_takeWord_100 (by decide) rfl ?_
  refine r_sub h [3, 2, 1, 0] rfl ?_
  exact b_To_takeWord_102 h hr hw ht FU 256 0 0 s1 (rIc rfl) (rJc rfl) (rIc rfl) hf
set_option maxRecDepth 20000 in
theorem b_To_takeWord_70 {l : Launch} {D : va_G} {cs : Nat → ClassId} {aS aV : Nat} {A : Nat → Prop} {K : KT} {ad : Nat → Nat} {n : Nat} {nl : Nat → Nat → Bool} {out : Int × SS} (h : w_Cl l rm_To_takeWord D cs aS aV A cX10_takeWord 6 RX10 "takeWord" K) (hr : w_Rt 0 cX10_takeWord 0 0 (w_Po ad n nl out) K) (hw : w_WH n nl) (ht : 43 < n) (s0 : SS) (hf : j_To_takeWord_70 s0 = some out) : K ad n nl 0 0 70 [(0, .ref (ad 43))] [] s0 := by
  unfold j_To_takeWord_70 at hf
  refine r_rS h (fun hs0 => ?_)
  refine r_aload_n h dX10_takeWord_70 rfl 0 rfl ?_
  refine r_aload_n h dX10_takeWord_71 rfl 0 rfl ?_
  refine g_X10_23 h dX10_takeWord_72 ht rC_43 ?_
  refine r_aload_n h dX10_takeWord_75 rfl 0 rfl ?_
  refine g_X10_37 h dX10_takeWord_76 ht rC_43 ?_
  refine r_isub h dX10_takeWord_79 ?_
  refine r_bipush h dX10_takeWord_80 (by decide) ?_
  refine r_icmp_le (tgt := 89) h dX10_takeWord_82 (by decide) (rI_iw _) (rIc rfl) (fun hc1 => ?_) (fun hc1 => ?_)
  · have hf := ite_t hc1 hf
    refine r_iconst h dX10_takeWord_89 ?_
    exact b_To_takeWord_90 h hr hw ht 3 s0 (rIc rfl) hf
  · have hf := ite_f hc1 hf
    refine r_iconst h dX10_takeWord_85 ?_
    refine r_goto (tgt := 90) h dX10_takeWord_86 (by decide) ?_
    exact b_To_takeWord_90 h hr hw ht 1 s0 (rIc rfl) hf
set_option maxRecDepth 20000 in
theorem b_To_takeWord_5 {l : Launch} {D : va_G} {cs : Nat → ClassId} {aS aV : Nat} {A : Nat → Prop} {K : KT} {ad : Nat → Nat} {n : Nat} {nl : Nat → Nat → Bool} {out : Int × SS} (h : w_Cl l rm_To_takeWord D cs aS aV A cX10_takeWord 6 RX10 "takeWord" K) (hr : w_Rt 0 cX10_takeWord 0 0 (w_Po ad n nl out) K) (hw : w_WH n nl) (ht : 43 < n) : ∀ (fu : Nat) (s0 : SS), l_To_takeWord_5 fu s0 = some out → K ad n nl 0 0 5 [(0, .ref (ad 43))] [] s0 := by
  intro fu
  induction fu with
  | zero =>
    intro s0 hf
    rw [l_To_takeWord_5] at hf
    cases hf
  | succ fu ih =>
    intro s0 hf
    rw [l_To_takeWord_5] at hf
    refine r_rS h (fun hs0 => ?_)
    refine r_aload_n h dX10_takeWord_5 rfl 0 rfl ?_
    refine g_X10_23 h dX10_takeWord_6 ht rC_43 ?_
    refine r_aload_n h dX10_takeWord_9 rfl 0 rfl ?_
    refine g_X10_19 h dX10_takeWord_10 ht rC_43 ?_
    refine r_icmp_ge (tgt := 70) h dX10_takeWord_13 (by decide) (hs0.1 _ _) (hs0.1 _ _) (fun hc1 => ?_) (fun hc1 => ?_)
    · have hf := ite_t hc1 hf
      exact b_To_takeWord_70 h hr hw ht s0 hf
    · have hf := ite_f hc1 hf
      refine r_aload_n h dX10_takeWord_16 rfl 0 rfl ?_
      refine r_aload_n h dX10_takeWord_17 rfl 0 rfl ?_
      refine g_X10_23 h dX10_takeWord_18 ht rC_43 ?_
      obtain ⟨r2, s2, hq2, hf⟩ := ob_some hf
      refine r_callV1 h [.int (vI (gi s0 43 2))] dX10_takeWord_21 (fun hs => m_To_sign hw ht (hs0.1 _ _) hs hq2) ml_X10_29 cv_To_sign rfl (co := 10) rfl (by decide) ht rC_43 ⟨rfl, rfl⟩ ⟨Nat.le_of_ble_eq_true rfl, Nat.le_of_ble_eq_true rfl⟩ ⟨Nat.le_of_ble_eq_true rfl, Nat.le_of_ble_eq_true rfl⟩ (Nat.le_of_ble_eq_true rfl) rfl (fun hr2 hs2 => ?_)
      obtain ⟨r3, s3, hq3, hf⟩ := ob_some hf
      refine r_callS2 h [.int (vI r2)] dX10_takeWord_24 (fun hs => m_To_isLetter hw hr2 hs hq3) ml_X10_43 cv_To_isLetter rfl ⟨rfl, rfl⟩ ⟨Nat.le_of_ble_eq_true rfl, Nat.le_of_ble_eq_true rfl⟩ ⟨Nat.le_of_ble_eq_true rfl, Nat.le_of_ble_eq_true rfl⟩ (Nat.le_of_ble_eq_true rfl) rfl (fun hr3 hs3 => ?_)
      refine r_if_eq (tgt := 70) h dX10_takeWord_27 (by decide) (rI_b hr3) (fun hc4 => ?_) (fun hc4 => ?_)
      · have hf := ite_t hc4 hf
        exact b_To_takeWord_70 h hr hw ht s3 hf
      · have hf := ite_f hc4 hf
        refine r_aload_n h dX10_takeWord_30 rfl 0 rfl ?_
        refine r_ldc2 (x := 32) h dX10_takeWord_31 (gt_in3 119 rfl rfl) rfl ?_
        refine r_aload_n h dX10_takeWord_34 rfl 0 rfl ?_
        refine g_X10_58 h dX10_takeWord_35 ht rC_43 ?_
        refine r_lmul h dX10_takeWord_38 ?_
        refine r_aload_n h dX10_takeWord_39 rfl 0 rfl ?_
        refine r_aload_n h dX10_takeWord_40 rfl 0 rfl ?_
        refine g_X10_23 h dX10_takeWord_41 ht rC_43 ?_
        obtain ⟨r5, s5, hq5, hf⟩ := ob_some hf
        refine r_callV1 h [.int (vI (gi s3 43 2))] dX10_takeWord_44 (fun hs => m_To_sign hw ht (hs3.1 _ _) hs hq5) ml_X10_29 cv_To_sign rfl (co := 10) rfl (by decide) ht rC_43 ⟨rfl, rfl⟩ ⟨Nat.le_of_ble_eq_true rfl, Nat.le_of_ble_eq_true rfl⟩ ⟨Nat.le_of_ble_eq_true rfl, Nat.le_of_ble_eq_true rfl⟩ (Nat.le_of_ble_eq_true rfl) rfl (fun hr5 hs5 => ?_)
        refine r_bipush h dX10_takeWord_47 (by decide) ?_
        refine r_isub h dX10_takeWord_49 ?_
        refine r_iconst h dX10_takeWord_50 ?_
        refine r_iadd h dX10_takeWord_51 ?_
        refine r_i2l h dX10_takeWord_52 (rI_iw _) ?_
        refine r_ladd h dX10_takeWord_53 ?_
        refine p_X10_58 h dX10_takeWord_54 ht rC_43 (rJ_jw _) ?_
        refine r_os hf (fun s6 hf => ?_)
        refine r_rS h (fun hs6 => ?_)
        refine r_aload_n h dX10_takeWord_57 rfl 0 rfl ?_
        refine r_dup h dX10_takeWord_58 rfl ?_
        refine g_X10_23 h dX10_takeWord_59 ht rC_43 ?_
        refine r_iconst h dX10_takeWord_62 ?_
        refine r_iadd h dX10_takeWord_63 ?_
        refine p_X10_23 h dX10_takeWord_64 ht rC_43 (rI_iw _) ?_
        refine r_os hf (fun s7 hf => ?_)
        refine r_rS h (fun hs7 => ?_)
        refine r_goto (tgt := 5) h dX10_takeWord_67 (by decide) ?_
        exact ih s7 hf
set_option maxRecDepth 20000 in
theorem m_To_takeWord {l : Launch} {D : va_G} {cs : Nat → ClassId} {aS aV : Nat} {A : Nat → Prop} {ad : Nat → Nat} {n : Nat} {nl : Nat → Nat → Bool} {out : Int × SS} (hw : w_WH n nl) (ht : 43 < n) {s0 : SS} (hs0 : rS s0) (hf : f_To_takeWord s0 = some out) : w_MC l D cs aS aV A yX10_takeWord cX10_takeWord 6 0 rm_To_takeWord ad n nl [.ref (ad 43)] s0 (w_Po ad n nl out) := by
  refine w_MC_of (by decide +kernel) (by decide) hs0 (Nat.le_of_ble_eq_true rfl) (fun K h hr => ?_)
  refine r_lv (lv' := [(0, .ref (ad 43))]) rfl ?_
  unfold f_To_takeWord at hf
  refine r_rS h (fun hs0 => ?_)
  refine r_aload_n h dX10_takeWord_0 rfl 0 rfl ?_
  refine r_lconst (x := 0) h dX10_takeWord_1 (by decide) ?_
  refine p_X10_58 h dX10_takeWord_2 ht rC_43 (rJc rfl) ?_
  refine r_os hf (fun s1 hf => ?_)
  refine r_rS h (fun hs1 => ?_)
  exact b_To_takeWord_5 h hr hw ht FU s1 hf
set_option maxRecDepth 20000 in
theorem m_To_isDigit {l : Launch} {D : va_G} {cs : Nat → ClassId} {aS aV : Nat} {A : Nat → Prop} {ad : Nat → Nat} {n : Nat} {nl : Nat → Nat → Bool} {out : Int × SS} (hw : w_WH n nl) {a1 : Int} (ra1 : rI a1) {s0 : SS} (hs0 : rS s0) (hf : f_To_isDigit a1 s0 = some out) : w_MC l D cs aS aV A yX10_isDigit cX10_isDigit 1 2 rm_To_isDigit ad n nl [.int (vI a1)] s0 (w_Po ad n nl out) := by
  refine w_MC_of (by decide +kernel) (by decide) hs0 (Nat.le_of_ble_eq_true rfl) (fun K h hr => ?_)
  refine r_lv (lv' := [(0, .int (vI a1))]) rfl ?_
  unfold f_To_isDigit at hf
  refine r_rS h (fun hs0 => ?_)
  refine r_iload_n h dX10_isDigit_0 rfl 0 rfl ?_
  refine r_bipush h dX10_isDigit_1 (by decide) ?_
  refine r_icmp_lt (tgt := 16) h dX10_isDigit_3 (by decide) ra1 (rIc rfl) (fun hc1 => ?_) (fun hc1 => ?_)
  · have hf := ite_t hc1 hf
    refine r_iconst h dX10_isDigit_16 ?_
    exact r_ret2 hr dX10_isDigit_17 (Or.inl rfl) hf
  · have hf := ite_f hc1 hf
    refine r_iload_n h dX10_isDigit_6 rfl 0 rfl ?_
    refine r_bipush h dX10_isDigit_7 (by decide) ?_
    refine r_icmp_gt (tgt := 16) h dX10_isDigit_9 (by decide) ra1 (rIc rfl) (fun hc2 => ?_) (fun hc2 => ?_)
    · have hf := ite_t hc2 hf
      refine r_iconst h dX10_isDigit_16 ?_
      exact r_ret2 hr dX10_isDigit_17 (Or.inl rfl) hf
    · have hf := ite_f hc2 hf
      refine r_iconst h dX10_isDigit_12 ?_
      refine r_goto (tgt := 17) h dX10_isDigit_13 (by decide) ?_
      exact r_ret2 hr dX10_isDigit_17 (Or.inr rfl) hf
set_option maxRecDepth 20000 in
theorem b_To_takeNumber_99 {l : Launch} {D : va_G} {cs : Nat → ClassId} {aS aV : Nat} {A : Nat → Prop} {K : KT} {ad : Nat → Nat} {n : Nat} {nl : Nat → Nat → Bool} {out : Int × SS} (h : w_Cl l rm_To_takeNumber D cs aS aV A cX10_takeNumber 1 RX10 "takeNumber" K) (hr : w_Rt 0 cX10_takeNumber 0 0 (w_Po ad n nl out) K) (hw : w_WH n nl) (ht : 43 < n) (z1 : Int) (s0 : SS) (rz1 : rI z1) (hf : j_To_takeNumber_99 z1 s0 = some out) : K ad n nl 0 0 99 [] [.int (vI z1), .ref (ad 43)] s0 := by
  unfold j_To_takeNumber_99 at hf
  refine r_rS h (fun hs0 => ?_)
  refine p_X10_40 h dX10_takeNumber_99 ht rC_43 rz1 ?_
  refine r_os hf (fun s1 hf => ?_)
  refine r_rS h (fun hs1 => ?_)
  exact r_ret0 (x := 0) hr dX10_takeNumber_102 hf
set_option maxRecDepth 20000 in
theorem b_To_takeNumber_94 {l : Launch} {D : va_G} {cs : Nat → ClassId} {aS aV : Nat} {A : Nat → Prop} {K : KT} {ad : Nat → Nat} {n : Nat} {nl : Nat → Nat → Bool} {out : Int × SS} (h : w_Cl l rm_To_takeNumber D cs aS aV A cX10_takeNumber 1 RX10 "takeNumber" K) (hr : w_Rt 0 cX10_takeNumber 0 0 (w_Po ad n nl out) K) (hw : w_WH n nl) (ht : 43 < n) (s0 : SS) (hf : j_To_takeNumber_94 s0 = some out) : K ad n nl 0 0 94 [] [.ref (ad 43)] s0 := by
  unfold j_To_takeNumber_94 at hf
  refine r_rS h (fun hs0 => ?_)
  refine r_iconst h dX10_takeNumber_94 ?_
  refine r_goto (tgt := 99) h dX10_takeNumber_95 (by decide) ?_
  exact b_To_takeNumber_99 h hr hw ht 1 s0 (rIc rfl) hf
set_option maxRecDepth 20000 in
theorem b_To_takeNumber_66 {l : Launch} {D : va_G} {cs : Nat → ClassId} {aS aV : Nat} {A : Nat → Prop} {K : KT} {ad : Nat → Nat} {n : Nat} {nl : Nat → Nat → Bool} {out : Int × SS} (h : w_Cl l rm_To_takeNumber D cs aS aV A cX10_takeNumber 1 RX10 "takeNumber" K) (hr : w_Rt 0 cX10_takeNumber 0 0 (w_Po ad n nl out) K) (hw : w_WH n nl) (ht : 43 < n) (s0 : SS) (hf : j_To_takeNumber_66 s0 = some out) : K ad n nl 0 0 66 [(0, .ref (ad 43))] [] s0 := by
  unfold j_To_takeNumber_66 at hf
  refine r_rS h (fun hs0 => ?_)
  refine r_aload_n h dX10_takeNumber_66 rfl 0 rfl ?_
  refine r_aload_n h dX10_takeNumber_67 rfl 0 rfl ?_
  refine g_X10_23 h dX10_takeNumber_68 ht rC_43 ?_
  refine r_aload_n h dX10_takeNumber_71 rfl 0 rfl ?_
  refine g_X10_37 h dX10_takeNumber_72 ht rC_43 ?_
  refine r_isub h dX10_takeNumber_75 ?_
  refine r_iconst h dX10_takeNumber_76 ?_
  refine r_icmp_gt (tgt := 94) h dX10_takeNumber_77 (by decide) (rI_iw _) (rIc rfl) (fun hc1 => ?_) (fun hc1 => ?_)
  · have hf := ite_t hc1 hf
    refine r_sub h [] rfl ?_
    exact b_To_takeNumber_94 h hr hw ht s0 hf
  · have hf := ite_f hc1 hf
    refine r_aload_n h dX10_takeNumber_80 rfl 0 rfl ?_
    refine r_aload_n h dX10_takeNumber_81 rfl 0 rfl ?_
    refine g_X10_23 h dX10_takeNumber_82 ht rC_43 ?_
    obtain ⟨r2, s2, hq2, hf⟩ := ob_some hf
    refine r_callV1 h [.int (vI (gi s0 43 2))] dX10_takeNumber_85 (fun hs => m_To_sign hw ht (hs0.1 _ _) hs hq2) ml_X10_29 cv_To_sign rfl (co := 10) rfl (by decide) ht rC_43 ⟨rfl, rfl⟩ ⟨Nat.le_of_ble_eq_true rfl, Nat.le_of_ble_eq_true rfl⟩ ⟨Nat.le_of_ble_eq_true rfl, Nat.le_of_ble_eq_true rfl⟩ (Nat.le_of_ble_eq_true rfl) rfl (fun hr2 hs2 => ?_)
    obtain ⟨r3, s3, hq3, hf⟩ := ob_some hf
    refine r_callS2 h [.int (vI r2)] dX10_takeNumber_88 (fun hs => m_To_isLetter hw hr2 hs hq3) ml_X10_43 cv_To_isLetter rfl ⟨rfl, rfl⟩ ⟨Nat.le_of_ble_eq_true rfl, Nat.le_of_ble_eq_true rfl⟩ ⟨Nat.le_of_ble_eq_true rfl, Nat.le_of_ble_eq_true rfl⟩ (Nat.le_of_ble_eq_true rfl) rfl (fun hr3 hs3 => ?_)
    refine r_if_eq (tgt := 98) h dX10_takeNumber_91 (by decide) (rI_b hr3) (fun hc4 => ?_) (fun hc4 => ?_)
    · have hf := ite_t hc4 hf
      refine r_iconst h dX10_takeNumber_98 ?_
      refine r_sub h [] rfl ?_
      exact b_To_takeNumber_99 h hr hw ht 2 s3 (rIc rfl) hf
    · have hf := ite_f hc4 hf
      refine r_sub h [] rfl ?_
      exact b_To_takeNumber_94 h hr hw ht s3 hf
set_option maxRecDepth 20000 in
theorem b_To_takeNumber_5 {l : Launch} {D : va_G} {cs : Nat → ClassId} {aS aV : Nat} {A : Nat → Prop} {K : KT} {ad : Nat → Nat} {n : Nat} {nl : Nat → Nat → Bool} {out : Int × SS} (h : w_Cl l rm_To_takeNumber D cs aS aV A cX10_takeNumber 1 RX10 "takeNumber" K) (hr : w_Rt 0 cX10_takeNumber 0 0 (w_Po ad n nl out) K) (hw : w_WH n nl) (ht : 43 < n) : ∀ (fu : Nat) (s0 : SS), l_To_takeNumber_5 fu s0 = some out → K ad n nl 0 0 5 [(0, .ref (ad 43))] [] s0 := by
  intro fu
  induction fu with
  | zero =>
    intro s0 hf
    rw [l_To_takeNumber_5] at hf
    cases hf
  | succ fu ih =>
    intro s0 hf
    rw [l_To_takeNumber_5] at hf
    refine r_rS h (fun hs0 => ?_)
    refine r_aload_n h dX10_takeNumber_5 rfl 0 rfl ?_
    refine g_X10_23 h dX10_takeNumber_6 ht rC_43 ?_
    refine r_aload_n h dX10_takeNumber_9 rfl 0 rfl ?_
    refine g_X10_19 h dX10_takeNumber_10 ht rC_43 ?_
    refine r_icmp_ge (tgt := 66) h dX10_takeNumber_13 (by decide) (hs0.1 _ _) (hs0.1 _ _) (fun hc1 => ?_) (fun hc1 => ?_)
    · have hf := ite_t hc1 hf
      exact b_To_takeNumber_66 h hr hw ht s0 hf
    · have hf := ite_f hc1 hf
      refine r_aload_n h dX10_takeNumber_16 rfl 0 rfl ?_
      refine r_aload_n h dX10_takeNumber_17 rfl 0 rfl ?_
      refine g_X10_23 h dX10_takeNumber_18 ht rC_43 ?_
      obtain ⟨r2, s2, hq2, hf⟩ := ob_some hf
      refine r_callV1 h [.int (vI (gi s0 43 2))] dX10_takeNumber_21 (fun hs => m_To_sign hw ht (hs0.1 _ _) hs hq2) ml_X10_29 cv_To_sign rfl (co := 10) rfl (by decide) ht rC_43 ⟨rfl, rfl⟩ ⟨Nat.le_of_ble_eq_true rfl, Nat.le_of_ble_eq_true rfl⟩ ⟨Nat.le_of_ble_eq_true rfl, Nat.le_of_ble_eq_true rfl⟩ (Nat.le_of_ble_eq_true rfl) rfl (fun hr2 hs2 => ?_)
      obtain ⟨r3, s3, hq3, hf⟩ := ob_some hf
      refine r_callS2 h [.int (vI r2)] dX10_takeNumber_24 (fun hs => m_To_isDigit hw hr2 hs hq3) ml_X10_49 cv_To_isDigit rfl ⟨rfl, rfl⟩ ⟨Nat.le_of_ble_eq_true rfl, Nat.le_of_ble_eq_true rfl⟩ ⟨Nat.le_of_ble_eq_true rfl, Nat.le_of_ble_eq_true rfl⟩ (Nat.le_of_ble_eq_true rfl) rfl (fun hr3 hs3 => ?_)
      refine r_if_eq (tgt := 66) h dX10_takeNumber_27 (by decide) (rI_b hr3) (fun hc4 => ?_) (fun hc4 => ?_)
      · have hf := ite_t hc4 hf
        exact b_To_takeNumber_66 h hr hw ht s3 hf
      · have hf := ite_f hc4 hf
        refine r_aload_n h dX10_takeNumber_30 rfl 0 rfl ?_
        refine r_bipush h dX10_takeNumber_31 (by decide) ?_
        refine r_aload_n h dX10_takeNumber_33 rfl 0 rfl ?_
        refine g_X10_75 h dX10_takeNumber_34 ht rC_43 ?_
        refine r_imul h dX10_takeNumber_37 ?_
        refine r_aload_n h dX10_takeNumber_38 rfl 0 rfl ?_
        refine r_aload_n h dX10_takeNumber_39 rfl 0 rfl ?_
        refine g_X10_23 h dX10_takeNumber_40 ht rC_43 ?_
        obtain ⟨r5, s5, hq5, hf⟩ := ob_some hf
        refine r_callV1 h [.int (vI (gi s3 43 2))] dX10_takeNumber_43 (fun hs => m_To_sign hw ht (hs3.1 _ _) hs hq5) ml_X10_29 cv_To_sign rfl (co := 10) rfl (by decide) ht rC_43 ⟨rfl, rfl⟩ ⟨Nat.le_of_ble_eq_true rfl, Nat.le_of_ble_eq_true rfl⟩ ⟨Nat.le_of_ble_eq_true rfl, Nat.le_of_ble_eq_true rfl⟩ (Nat.le_of_ble_eq_true rfl) rfl (fun hr5 hs5 => ?_)
        refine r_bipush h dX10_takeNumber_46 (by decide) ?_
        refine r_isub h dX10_takeNumber_48 ?_
        refine r_iadd h dX10_takeNumber_49 ?_
        refine p_X10_75 h dX10_takeNumber_50 ht rC_43 (rI_iw _) ?_
        refine r_os hf (fun s6 hf => ?_)
        refine r_rS h (fun hs6 => ?_)
        refine r_aload_n h dX10_takeNumber_53 rfl 0 rfl ?_
        refine r_dup h dX10_takeNumber_54 rfl ?_
        refine g_X10_23 h dX10_takeNumber_55 ht rC_43 ?_
        refine r_iconst h dX10_takeNumber_58 ?_
        refine r_iadd h dX10_takeNumber_59 ?_
        refine p_X10_23 h dX10_takeNumber_60 ht rC_43 (rI_iw _) ?_
        refine r_os hf (fun s7 hf => ?_)
        refine r_rS h (fun hs7 => ?_)
        refine r_goto (tgt := 5) h dX10_takeNumber_63 (by decide) ?_
        exact ih s7 hf
set_option maxRecDepth 20000 in
theorem m_To_takeNumber {l : Launch} {D : va_G} {cs : Nat → ClassId} {aS aV : Nat} {A : Nat → Prop} {ad : Nat → Nat} {n : Nat} {nl : Nat → Nat → Bool} {out : Int × SS} (hw : w_WH n nl) (ht : 43 < n) {s0 : SS} (hs0 : rS s0) (hf : f_To_takeNumber s0 = some out) : w_MC l D cs aS aV A yX10_takeNumber cX10_takeNumber 1 0 rm_To_takeNumber ad n nl [.ref (ad 43)] s0 (w_Po ad n nl out) := by
  refine w_MC_of (by decide +kernel) (by decide) hs0 (Nat.le_of_ble_eq_true rfl) (fun K h hr => ?_)
  refine r_lv (lv' := [(0, .ref (ad 43))]) rfl ?_
  unfold f_To_takeNumber at hf
  refine r_rS h (fun hs0 => ?_)
  refine r_aload_n h dX10_takeNumber_0 rfl 0 rfl ?_
  refine r_iconst h dX10_takeNumber_1 ?_
  refine p_X10_75 h dX10_takeNumber_2 ht rC_43 (rIc rfl) ?_
  refine r_os hf (fun s1 hf => ?_)
  refine r_rS h (fun hs1 => ?_)
  exact b_To_takeNumber_5 h hr hw ht FU s1 hf
set_option maxRecDepth 20000 in
theorem m_To_isSign {l : Launch} {D : va_G} {cs : Nat → ClassId} {aS aV : Nat} {A : Nat → Prop} {ad : Nat → Nat} {n : Nat} {nl : Nat → Nat → Bool} {out : Int × SS} (hw : w_WH n nl) {a1 : Int} (ra1 : rI a1) {s0 : SS} (hs0 : rS s0) (hf : f_To_isSign a1 s0 = some out) : w_MC l D cs aS aV A yX10_isSign cX10_isSign 1 2 rm_To_isSign ad n nl [.int (vI a1)] s0 (w_Po ad n nl out) := by
  refine w_MC_of (by decide +kernel) (by decide) hs0 (Nat.le_of_ble_eq_true rfl) (fun K h hr => ?_)
  refine r_lv (lv' := [(0, .int (vI a1))]) rfl ?_
  unfold f_To_isSign at hf
  refine r_rS h (fun hs0 => ?_)
  refine r_iload_n h dX10_isSign_0 rfl 0 rfl ?_
  by_cases hc1 : a1 = 37
  · have hf := ite_t hc1 hf
    refine r_tableIn (tgt := 120) h dX10_isSign_1 hc1 (rIc rfl) (by decide) (by decide) (off := 119) rfl (by decide) ?_
    refine r_iconst h dX10_isSign_120 ?_
    exact r_ret2 hr dX10_isSign_121 (Or.inr rfl) hf
  · have hf := ite_f hc1 hf
    by_cases hc2 : a1 = 40
    · have hf := ite_t hc2 hf
      refine r_tableIn (tgt := 120) h dX10_isSign_1 hc2 (rIc rfl) (by decide) (by decide) (off := 119) rfl (by decide) ?_
      refine r_iconst h dX10_isSign_120 ?_
      exact r_ret2 hr dX10_isSign_121 (Or.inr rfl) hf
    · have hf := ite_f hc2 hf
      by_cases hc3 : a1 = 41
      · have hf := ite_t hc3 hf
        refine r_tableIn (tgt := 120) h dX10_isSign_1 hc3 (rIc rfl) (by decide) (by decide) (off := 119) rfl (by decide) ?_
        refine r_iconst h dX10_isSign_120 ?_
        exact r_ret2 hr dX10_isSign_121 (Or.inr rfl) hf
      · have hf := ite_f hc3 hf
        by_cases hc4 : a1 = 42
        · have hf := ite_t hc4 hf
          refine r_tableIn (tgt := 120) h dX10_isSign_1 hc4 (rIc rfl) (by decide) (by decide) (off := 119) rfl (by decide) ?_
          refine r_iconst h dX10_isSign_120 ?_
          exact r_ret2 hr dX10_isSign_121 (Or.inr rfl) hf
        · have hf := ite_f hc4 hf
          by_cases hc5 : a1 = 43
          · have hf := ite_t hc5 hf
            refine r_tableIn (tgt := 120) h dX10_isSign_1 hc5 (rIc rfl) (by decide) (by decide) (off := 119) rfl (by decide) ?_
            refine r_iconst h dX10_isSign_120 ?_
            exact r_ret2 hr dX10_isSign_121 (Or.inr rfl) hf
          · have hf := ite_f hc5 hf
            by_cases hc6 : a1 = 45
            · have hf := ite_t hc6 hf
              refine r_tableIn (tgt := 120) h dX10_isSign_1 hc6 (rIc rfl) (by decide) (by decide) (off := 119) rfl (by decide) ?_
              refine r_iconst h dX10_isSign_120 ?_
              exact r_ret2 hr dX10_isSign_121 (Or.inr rfl) hf
            · have hf := ite_f hc6 hf
              by_cases hc7 : a1 = 47
              · have hf := ite_t hc7 hf
                refine r_tableIn (tgt := 120) h dX10_isSign_1 hc7 (rIc rfl) (by decide) (by decide) (off := 119) rfl (by decide) ?_
                refine r_iconst h dX10_isSign_120 ?_
                exact r_ret2 hr dX10_isSign_121 (Or.inr rfl) hf
              · have hf := ite_f hc7 hf
                by_cases hc8 : a1 = 59
                · have hf := ite_t hc8 hf
                  refine r_tableIn (tgt := 120) h dX10_isSign_1 hc8 (rIc rfl) (by decide) (by decide) (off := 119) rfl (by decide) ?_
                  refine r_iconst h dX10_isSign_120 ?_
                  exact r_ret2 hr dX10_isSign_121 (Or.inr rfl) hf
                · have hf := ite_f hc8 hf
                  by_cases hc9 : a1 = 60
                  · have hf := ite_t hc9 hf
                    refine r_tableIn (tgt := 120) h dX10_isSign_1 hc9 (rIc rfl) (by decide) (by decide) (off := 119) rfl (by decide) ?_
                    refine r_iconst h dX10_isSign_120 ?_
                    exact r_ret2 hr dX10_isSign_121 (Or.inr rfl) hf
                  · have hf := ite_f hc9 hf
                    by_cases hc10 : a1 = 61
                    · have hf := ite_t hc10 hf
                      refine r_tableIn (tgt := 120) h dX10_isSign_1 hc10 (rIc rfl) (by decide) (by decide) (off := 119) rfl (by decide) ?_
                      refine r_iconst h dX10_isSign_120 ?_
                      exact r_ret2 hr dX10_isSign_121 (Or.inr rfl) hf
                    · have hf := ite_f hc10 hf
                      by_cases hc11 : a1 = 62
                      · have hf := ite_t hc11 hf
                        refine r_tableIn (tgt := 120) h dX10_isSign_1 hc11 (rIc rfl) (by decide) (by decide) (off := 119) rfl (by decide) ?_
                        refine r_iconst h dX10_isSign_120 ?_
                        exact r_ret2 hr dX10_isSign_121 (Or.inr rfl) hf
                      · have hf := ite_f hc11 hf
                        refine r_tableX (tgt := 122) h dX10_isSign_1 ra1 (by
                          have hz : a1 < 37 ∨ 62 < a1 ∨ a1 = 38 ∨ a1 = 39 ∨ a1 = 44 ∨ a1 = 46 ∨ a1 = 48 ∨ a1 = 49 ∨ a1 = 50 ∨ a1 = 51 ∨ a1 = 52 ∨ a1 = 53 ∨ a1 = 54 ∨ a1 = 55 ∨ a1 = 56 ∨ a1 = 57 ∨ a1 = 58 := by omega
                          rcases hz with q | q | q | q | q | q | q | q | q | q | q | q | q | q | q | q | q
                          · exact Or.inl q
                          · exact Or.inr (Or.inl q)
                          · exact Or.inr (Or.inr ⟨121, by rw [q]; rfl, by rw [q]; decide, by rw [q]; decide, by decide⟩)
                          · exact Or.inr (Or.inr ⟨121, by rw [q]; rfl, by rw [q]; decide, by rw [q]; decide, by decide⟩)
                          · exact Or.inr (Or.inr ⟨121, by rw [q]; rfl, by rw [q]; decide, by rw [q]; decide, by decide⟩)
                          · exact Or.inr (Or.inr ⟨121, by rw [q]; rfl, by rw [q]; decide, by rw [q]; decide, by decide⟩)
                          · exact Or.inr (Or.inr ⟨121, by rw [q]; rfl, by rw [q]; decide, by rw [q]; decide, by decide⟩)
                          · exact Or.inr (Or.inr ⟨121, by rw [q]; rfl, by rw [q]; decide, by rw [q]; decide, by decide⟩)
                          · exact Or.inr (Or.inr ⟨121, by rw [q]; rfl, by rw [q]; decide, by rw [q]; decide, by decide⟩)
                          · exact Or.inr (Or.inr ⟨121, by rw [q]; rfl, by rw [q]; decide, by rw [q]; decide, by decide⟩)
                          · exact Or.inr (Or.inr ⟨121, by rw [q]; rfl, by rw [q]; decide, by rw [q]; decide, by decide⟩)
                          · exact Or.inr (Or.inr ⟨121, by rw [q]; rfl, by rw [q]; decide, by rw [q]; decide, by decide⟩)
                          · exact Or.inr (Or.inr ⟨121, by rw [q]; rfl, by rw [q]; decide, by rw [q]; decide, by decide⟩)
                          · exact Or.inr (Or.inr ⟨121, by rw [q]; rfl, by rw [q]; decide, by rw [q]; decide, by decide⟩)
                          · exact Or.inr (Or.inr ⟨121, by rw [q]; rfl, by rw [q]; decide, by rw [q]; decide, by decide⟩)
                          · exact Or.inr (Or.inr ⟨121, by rw [q]; rfl, by rw [q]; decide, by rw [q]; decide, by decide⟩)
                          · exact Or.inr (Or.inr ⟨121, by rw [q]; rfl, by rw [q]; decide, by rw [q]; decide, by decide⟩)
                          ) (by decide) ?_
                        refine r_iconst h dX10_isSign_122 ?_
                        exact r_ret2 hr dX10_isSign_123 (Or.inl rfl) hf
set_option maxRecDepth 20000 in
theorem b_To_move_125 {l : Launch} {D : va_G} {cs : Nat → ClassId} {aS aV : Nat} {A : Nat → Prop} {K : KT} {ad : Nat → Nat} {n : Nat} {nl : Nat → Nat → Bool} {out : Int × SS} (h : w_Cl l rm_To_move D cs aS aV A cX10_move 2 RX10 "move" K) (hr : w_Rt 0 cX10_move 0 0 (w_Po ad n nl out) K) (hw : w_WH n nl) (ht : 43 < n) (z1 : Int) (s0 : SS) (rz1 : rI z1) (hf : j_To_move_125 z1 s0 = some out) : K ad n nl 0 0 125 [] [.int (vI z1), .ref (ad 43)] s0 := by
  unfold j_To_move_125 at hf
  refine r_rS h (fun hs0 => ?_)
  refine p_X10_40 h dX10_move_125 ht rC_43 rz1 ?_
  refine r_os hf (fun s1 hf => ?_)
  refine r_rS h (fun hs1 => ?_)
  exact r_ret0 (x := 0) hr dX10_move_128 hf
set_option maxRecDepth 20000 in
theorem b_To_move_38 {l : Launch} {D : va_G} {cs : Nat → ClassId} {aS aV : Nat} {A : Nat → Prop} {K : KT} {ad : Nat → Nat} {n : Nat} {nl : Nat → Nat → Bool} {out : Int × SS} (h : w_Cl l rm_To_move D cs aS aV A cX10_move 2 RX10 "move" K) (hr : w_Rt 0 cX10_move 0 0 (w_Po ad n nl out) K) (hw : w_WH n nl) (ht : 43 < n) (s0 : SS) (hf : j_To_move_38 s0 = some out) : K ad n nl 0 0 38 [(0, .ref (ad 43))] [] s0 := by
  unfold j_To_move_38 at hf
  refine r_rS h (fun hs0 => ?_)
  refine r_aload_n h dX10_move_38 rfl 0 rfl ?_
  refine r_aload_n h dX10_move_39 rfl 0 rfl ?_
  refine g_X10_23 h dX10_move_40 ht rC_43 ?_
  refine p_X10_37 h dX10_move_43 ht rC_43 (hs0.1 _ _) ?_
  refine r_os hf (fun s1 hf => ?_)
  refine r_rS h (fun hs1 => ?_)
  refine r_aload_n h dX10_move_46 rfl 0 rfl ?_
  refine r_aload_n h dX10_move_47 rfl 0 rfl ?_
  refine g_X10_23 h dX10_move_48 ht rC_43 ?_
  obtain ⟨r2, s2, hq2, hf⟩ := ob_some hf
  refine r_callV1 h [.int (vI (gi s1 43 2))] dX10_move_51 (fun hs => m_To_sign hw ht (hs1.1 _ _) hs hq2) ml_X10_29 cv_To_sign rfl (co := 10) rfl (by decide) ht rC_43 ⟨rfl, rfl⟩ ⟨Nat.le_of_ble_eq_true rfl, Nat.le_of_ble_eq_true rfl⟩ ⟨Nat.le_of_ble_eq_true rfl, Nat.le_of_ble_eq_true rfl⟩ (Nat.le_of_ble_eq_true rfl) rfl (fun hr2 hs2 => ?_)
  refine r_istore_n h [(1, .int (vI r2)), (0, .ref (ad 43))] dX10_move_54 rfl (by decide) rfl ?_
  refine r_aload_n h dX10_move_55 rfl 1 rfl ?_
  refine g_X10_23 h dX10_move_56 ht rC_43 ?_
  refine r_aload_n h dX10_move_59 rfl 1 rfl ?_
  refine g_X10_19 h dX10_move_60 ht rC_43 ?_
  refine r_icmp_lt (tgt := 74) h dX10_move_63 (by decide) (hs2.1 _ _) (hs2.1 _ _) (fun hc3 => ?_) (fun hc3 => ?_)
  · have hf := ite_t hc3 hf
    refine r_iload_n h dX10_move_74 rfl 0 rfl ?_
    obtain ⟨r4, s4, hq4, hf⟩ := ob_some hf
    refine r_callS2 h [.int (vI r2)] dX10_move_75 (fun hs => m_To_isLetter hw hr2 hs hq4) ml_X10_43 cv_To_isLetter rfl ⟨rfl, rfl⟩ ⟨Nat.le_of_ble_eq_true rfl, Nat.le_of_ble_eq_true rfl⟩ ⟨Nat.le_of_ble_eq_true rfl, Nat.le_of_ble_eq_true rfl⟩ (Nat.le_of_ble_eq_true rfl) rfl (fun hr4 hs4 => ?_)
    refine r_if_eq (tgt := 88) h dX10_move_78 (by decide) (rI_b hr4) (fun hc5 => ?_) (fun hc5 => ?_)
    · have hf := ite_t hc5 hf
      refine r_iload_n h dX10_move_88 rfl 0 rfl ?_
      obtain ⟨r6, s6, hq6, hf⟩ := ob_some hf
      refine r_callS2 h [.int (vI r2)] dX10_move_89 (fun hs => m_To_isDigit hw hr2 hs hq6) ml_X10_49 cv_To_isDigit rfl ⟨rfl, rfl⟩ ⟨Nat.le_of_ble_eq_true rfl, Nat.le_of_ble_eq_true rfl⟩ ⟨Nat.le_of_ble_eq_true rfl, Nat.le_of_ble_eq_true rfl⟩ (Nat.le_of_ble_eq_true rfl) rfl (fun hr6 hs6 => ?_)
      refine r_if_eq (tgt := 102) h dX10_move_92 (by decide) (rI_b hr6) (fun hc7 => ?_) (fun hc7 => ?_)
      · have hf := ite_t hc7 hf
        refine r_aload_n h dX10_move_102 rfl 1 rfl ?_
        refine r_dup h dX10_move_103 rfl ?_
        refine g_X10_23 h dX10_move_104 ht rC_43 ?_
        refine r_iconst h dX10_move_107 ?_
        refine r_iadd h dX10_move_108 ?_
        refine p_X10_23 h dX10_move_109 ht rC_43 (rI_iw _) ?_
        refine r_os hf (fun s8 hf => ?_)
        refine r_rS h (fun hs8 => ?_)
        refine r_aload_n h dX10_move_112 rfl 1 rfl ?_
        refine r_iload_n h dX10_move_113 rfl 0 rfl ?_
        obtain ⟨r9, s9, hq9, hf⟩ := ob_some hf
        refine r_callS2 h [.int (vI r2)] dX10_move_114 (fun hs => m_To_isSign hw hr2 hs hq9) ml_X10_55 cv_To_isSign rfl ⟨rfl, rfl⟩ ⟨Nat.le_of_ble_eq_true rfl, Nat.le_of_ble_eq_true rfl⟩ ⟨Nat.le_of_ble_eq_true rfl, Nat.le_of_ble_eq_true rfl⟩ (Nat.le_of_ble_eq_true rfl) rfl (fun hr9 hs9 => ?_)
        refine r_if_eq (tgt := 124) h dX10_move_117 (by decide) (rI_b hr9) (fun hc10 => ?_) (fun hc10 => ?_)
        · have hf := ite_t hc10 hf
          refine r_iconst h dX10_move_124 ?_
          refine r_sub h [] rfl ?_
          exact b_To_move_125 h hr hw ht 1 s9 (rIc rfl) hf
        · have hf := ite_f hc10 hf
          refine r_iload_n h dX10_move_120 rfl 0 rfl ?_
          refine r_goto (tgt := 125) h dX10_move_121 (by decide) ?_
          refine r_sub h [] rfl ?_
          exact b_To_move_125 h hr hw ht r2 s9 hr2 hf
      · have hf := ite_f hc7 hf
        refine r_aload_n h dX10_move_95 rfl 1 rfl ?_
        obtain ⟨r11, s11, hq11, hf⟩ := ob_some hf
        refine r_callV0 h [] dX10_move_96 (fun hs => m_To_takeNumber hw ht hs hq11) ml_X10_52 cv_To_takeNumber rfl (co := 10) rfl (by decide) ht rC_43 ⟨rfl, rfl⟩ ⟨Nat.le_of_ble_eq_true rfl, Nat.le_of_ble_eq_true rfl⟩ ⟨Nat.le_of_ble_eq_true rfl, Nat.le_of_ble_eq_true rfl⟩ (Nat.le_of_ble_eq_true rfl) rfl (fun hr11 hs11 => ?_)
        refine r_goto (tgt := 128) h dX10_move_99 (by decide) ?_
        exact r_ret0 (x := 0) hr dX10_move_128 hf
    · have hf := ite_f hc5 hf
      refine r_aload_n h dX10_move_81 rfl 1 rfl ?_
      obtain ⟨r12, s12, hq12, hf⟩ := ob_some hf
      refine r_callV0 h [] dX10_move_82 (fun hs => m_To_takeWord hw ht hs hq12) ml_X10_46 cv_To_takeWord rfl (co := 10) rfl (by decide) ht rC_43 ⟨rfl, rfl⟩ ⟨Nat.le_of_ble_eq_true rfl, Nat.le_of_ble_eq_true rfl⟩ ⟨Nat.le_of_ble_eq_true rfl, Nat.le_of_ble_eq_true rfl⟩ (Nat.le_of_ble_eq_true rfl) rfl (fun hr12 hs12 => ?_)
      refine r_goto (tgt := 128) h dX10_move_85 (by decide) ?_
      exact r_ret0 (x := 0) hr dX10_move_128 hf
  · have hf := ite_f hc3 hf
    refine r_aload_n h dX10_move_66 rfl 1 rfl ?_
    refine r_iconst h dX10_move_67 ?_
    refine p_X10_40 h dX10_move_68 ht rC_43 (rIc rfl) ?_
    refine r_os hf (fun s13 hf => ?_)
    refine r_rS h (fun hs13 => ?_)
    refine r_goto (tgt := 128) h dX10_move_71 (by decide) ?_
    exact r_ret0 (x := 0) hr dX10_move_128 hf
set_option maxRecDepth 20000 in
theorem b_To_move_0 {l : Launch} {D : va_G} {cs : Nat → ClassId} {aS aV : Nat} {A : Nat → Prop} {K : KT} {ad : Nat → Nat} {n : Nat} {nl : Nat → Nat → Bool} {out : Int × SS} (h : w_Cl l rm_To_move D cs aS aV A cX10_move 2 RX10 "move" K) (hr : w_Rt 0 cX10_move 0 0 (w_Po ad n nl out) K) (hw : w_WH n nl) (ht : 43 < n) : ∀ (fu : Nat) (s0 : SS), l_To_move_0 fu s0 = some out → K ad n nl 0 0 0 [(0, .ref (ad 43))] [] s0 := by
  intro fu
  induction fu with
  | zero =>
    intro s0 hf
    rw [l_To_move_0] at hf
    cases hf
  | succ fu ih =>
    intro s0 hf
    rw [l_To_move_0] at hf
    refine r_rS h (fun hs0 => ?_)
    refine r_aload_n h dX10_move_0 rfl 0 rfl ?_
    refine g_X10_23 h dX10_move_1 ht rC_43 ?_
    refine r_aload_n h dX10_move_4 rfl 0 rfl ?_
    refine g_X10_19 h dX10_move_5 ht rC_43 ?_
    refine r_icmp_ge (tgt := 38) h dX10_move_8 (by decide) (hs0.1 _ _) (hs0.1 _ _) (fun hc1 => ?_) (fun hc1 => ?_)
    · have hf := ite_t hc1 hf
      exact b_To_move_38 h hr hw ht s0 hf
    · have hf := ite_f hc1 hf
      refine r_aload_n h dX10_move_11 rfl 0 rfl ?_
      refine r_aload_n h dX10_move_12 rfl 0 rfl ?_
      refine g_X10_23 h dX10_move_13 ht rC_43 ?_
      obtain ⟨r2, s2, hq2, hf⟩ := ob_some hf
      refine r_callV1 h [.int (vI (gi s0 43 2))] dX10_move_16 (fun hs => m_To_sign hw ht (hs0.1 _ _) hs hq2) ml_X10_29 cv_To_sign rfl (co := 10) rfl (by decide) ht rC_43 ⟨rfl, rfl⟩ ⟨Nat.le_of_ble_eq_true rfl, Nat.le_of_ble_eq_true rfl⟩ ⟨Nat.le_of_ble_eq_true rfl, Nat.le_of_ble_eq_true rfl⟩ (Nat.le_of_ble_eq_true rfl) rfl (fun hr2 hs2 => ?_)
      obtain ⟨r3, s3, hq3, hf⟩ := ob_some hf
      refine r_callS2 h [.int (vI r2)] dX10_move_19 (fun hs => m_To_isBlank hw hr2 hs hq3) ml_X10_33 cv_To_isBlank rfl ⟨rfl, rfl⟩ ⟨Nat.le_of_ble_eq_true rfl, Nat.le_of_ble_eq_true rfl⟩ ⟨Nat.le_of_ble_eq_true rfl, Nat.le_of_ble_eq_true rfl⟩ (Nat.le_of_ble_eq_true rfl) rfl (fun hr3 hs3 => ?_)
      refine r_if_eq (tgt := 38) h dX10_move_22 (by decide) (rI_b hr3) (fun hc4 => ?_) (fun hc4 => ?_)
      · have hf := ite_t hc4 hf
        exact b_To_move_38 h hr hw ht s3 hf
      · have hf := ite_f hc4 hf
        refine r_aload_n h dX10_move_25 rfl 0 rfl ?_
        refine r_dup h dX10_move_26 rfl ?_
        refine g_X10_23 h dX10_move_27 ht rC_43 ?_
        refine r_iconst h dX10_move_30 ?_
        refine r_iadd h dX10_move_31 ?_
        refine p_X10_23 h dX10_move_32 ht rC_43 (rI_iw _) ?_
        refine r_os hf (fun s5 hf => ?_)
        refine r_rS h (fun hs5 => ?_)
        refine r_goto (tgt := 0) h dX10_move_35 (by decide) ?_
        exact ih s5 hf
set_option maxRecDepth 20000 in
theorem m_To_move {l : Launch} {D : va_G} {cs : Nat → ClassId} {aS aV : Nat} {A : Nat → Prop} {ad : Nat → Nat} {n : Nat} {nl : Nat → Nat → Bool} {out : Int × SS} (hw : w_WH n nl) (ht : 43 < n) {s0 : SS} (hs0 : rS s0) (hf : f_To_move s0 = some out) : w_MC l D cs aS aV A yX10_move cX10_move 2 0 rm_To_move ad n nl [.ref (ad 43)] s0 (w_Po ad n nl out) := by
  refine w_MC_of (by decide +kernel) (by decide) hs0 (Nat.le_of_ble_eq_true rfl) (fun K h hr => ?_)
  refine r_lv (lv' := [(0, .ref (ad 43))]) rfl ?_
  unfold f_To_move at hf
  exact b_To_move_0 h hr hw ht FU s0 hf
set_option maxRecDepth 20000 in
theorem m_To_open {l : Launch} {D : va_G} {cs : Nat → ClassId} {aS aV : Nat} {A : Nat → Prop} {ad : Nat → Nat} {n : Nat} {nl : Nat → Nat → Bool} {out : Int × SS} (hw : w_WH n nl) (ht : 43 < n) {a1 : Int} (ra1 : rI a1) {s0 : SS} (hs0 : rS s0) (hf : f_To_open a1 s0 = some out) : w_MC l D cs aS aV A yX10_open cX10_open 2 0 rm_To_open ad n nl [.ref (ad 43), .int (vI a1)] s0 (w_Po ad n nl out) := by
  refine w_MC_of (by decide +kernel) (by decide) hs0 (Nat.le_of_ble_eq_true rfl) (fun K h hr => ?_)
  refine r_lv (lv' := [(0, .ref (ad 43)), (1, .int (vI a1))]) rfl ?_
  unfold f_To_open at hf
  refine r_rS h (fun hs0 => ?_)
  refine r_aload_n h dX10_open_0 rfl 0 rfl ?_
  refine r_iconst h dX10_open_1 ?_
  refine r_iload_n h dX10_open_2 rfl 1 rfl ?_
  refine r_aload_n h dX10_open_3 rfl 0 rfl ?_
  have hq1 := w_ref hw ht rC_43 (by decide) (k := 0) (by decide) rf_10_0
  refine g_X10_9 h dX10_open_4 ht rC_43 hq1.1 ?_
  refine r_alen (N := 1600) h dX10_open_7 hq1.2 rC_1 (Or.inl rfl) (by rw [rN_1]; rfl) ?_
  obtain ⟨r2, s2, hq2, hf⟩ := ob_some hf
  refine r_callSN1 h [.int (vI 0), .int (vI a1), .int (vI 1600)] dX10_open_8 (fun hs => m_Qu_within hw (rIc rfl) ra1 (rIc rfl) hs hq2) nst_X10 cv_Qu_within rfl ⟨rfl, rfl⟩ ⟨Nat.le_of_ble_eq_true rfl, Nat.le_of_ble_eq_true rfl⟩ ⟨Nat.le_of_ble_eq_true rfl, Nat.le_of_ble_eq_true rfl⟩ (Nat.le_of_ble_eq_true rfl) rfl (fun hr2 hs2 => ?_)
  refine p_X10_19 h dX10_open_11 ht rC_43 hr2 ?_
  refine r_os hf (fun s3 hf => ?_)
  refine r_rS h (fun hs3 => ?_)
  refine r_aload_n h dX10_open_14 rfl 0 rfl ?_
  refine r_iconst h dX10_open_15 ?_
  refine p_X10_23 h dX10_open_16 ht rC_43 (rIc rfl) ?_
  refine r_os hf (fun s4 hf => ?_)
  refine r_rS h (fun hs4 => ?_)
  refine r_aload_n h dX10_open_19 rfl 0 rfl ?_
  obtain ⟨r5, s5, hq5, hf⟩ := ob_some hf
  refine r_callV0 h [] dX10_open_20 (fun hs => m_To_move hw ht hs hq5) ml_X10_26 cv_To_move rfl (co := 10) rfl (by decide) ht rC_43 ⟨rfl, rfl⟩ ⟨Nat.le_of_ble_eq_true rfl, Nat.le_of_ble_eq_true rfl⟩ ⟨Nat.le_of_ble_eq_true rfl, Nat.le_of_ble_eq_true rfl⟩ (Nat.le_of_ble_eq_true rfl) rfl (fun hr5 hs5 => ?_)
  exact r_ret0 (x := 0) hr dX10_open_23 hf
set_option maxRecDepth 20000 in
theorem m_FR_bindingOf {l : Launch} {D : va_G} {cs : Nat → ClassId} {aS aV : Nat} {A : Nat → Prop} {ad : Nat → Nat} {n : Nat} {nl : Nat → Nat → Bool} {out : Int × SS} (hw : w_WH n nl) {a1 : Int} (ra1 : rI a1) {s0 : SS} (hs0 : rS s0) (hf : f_FR_bindingOf a1 s0 = some out) : w_MC l D cs aS aV A yX3_bindingOf cX3_bindingOf 1 1 rm_FR_bindingOf ad n nl [.int (vI a1)] s0 (w_Po ad n nl out) := by
  refine w_MC_of (by decide +kernel) (by decide) hs0 (Nat.le_of_ble_eq_true rfl) (fun K h hr => ?_)
  refine r_lv (lv' := [(0, .int (vI a1))]) rfl ?_
  unfold f_FR_bindingOf at hf
  refine r_rS h (fun hs0 => ?_)
  refine r_iload_n h dX3_bindingOf_0 rfl 0 rfl ?_
  by_cases hc1 : a1 = 37
  · have hf := ite_t hc1 hf
    refine r_lookup (tgt := 110) (off := 109) h dX3_bindingOf_1 (by decide) ra1 (by rw [hc1]; rfl) (by decide) ?_
    refine r_bipush h dX3_bindingOf_110 (by decide) ?_
    exact r_ret1 hr dX3_bindingOf_112 (rIc rfl) hf
  · have hf := ite_f hc1 hf
    by_cases hc2 : a1 = 42
    · have hf := ite_t hc2 hf
      refine r_lookup (tgt := 110) (off := 109) h dX3_bindingOf_1 (by decide) ra1 (by rw [hc2]; rfl) (by decide) ?_
      refine r_bipush h dX3_bindingOf_110 (by decide) ?_
      exact r_ret1 hr dX3_bindingOf_112 (rIc rfl) hf
    · have hf := ite_f hc2 hf
      by_cases hc3 : a1 = 43
      · have hf := ite_t hc3 hf
        refine r_lookup (tgt := 108) (off := 107) h dX3_bindingOf_1 (by decide) ra1 (by rw [hc3]; rfl) (by decide) ?_
        refine r_iconst h dX3_bindingOf_108 ?_
        exact r_ret1 hr dX3_bindingOf_109 (rIc rfl) hf
      · have hf := ite_f hc3 hf
        by_cases hc4 : a1 = 45
        · have hf := ite_t hc4 hf
          refine r_lookup (tgt := 108) (off := 107) h dX3_bindingOf_1 (by decide) ra1 (by rw [hc4]; rfl) (by decide) ?_
          refine r_iconst h dX3_bindingOf_108 ?_
          exact r_ret1 hr dX3_bindingOf_109 (rIc rfl) hf
        · have hf := ite_f hc4 hf
          by_cases hc5 : a1 = 47
          · have hf := ite_t hc5 hf
            refine r_lookup (tgt := 110) (off := 109) h dX3_bindingOf_1 (by decide) ra1 (by rw [hc5]; rfl) (by decide) ?_
            refine r_bipush h dX3_bindingOf_110 (by decide) ?_
            exact r_ret1 hr dX3_bindingOf_112 (rIc rfl) hf
          · have hf := ite_f hc5 hf
            by_cases hc6 : a1 = 60
            · have hf := ite_t hc6 hf
              refine r_lookup (tgt := 106) (off := 105) h dX3_bindingOf_1 (by decide) ra1 (by rw [hc6]; rfl) (by decide) ?_
              refine r_iconst h dX3_bindingOf_106 ?_
              exact r_ret1 hr dX3_bindingOf_107 (rIc rfl) hf
            · have hf := ite_f hc6 hf
              by_cases hc7 : a1 = 61
              · have hf := ite_t hc7 hf
                refine r_lookup (tgt := 106) (off := 105) h dX3_bindingOf_1 (by decide) ra1 (by rw [hc7]; rfl) (by decide) ?_
                refine r_iconst h dX3_bindingOf_106 ?_
                exact r_ret1 hr dX3_bindingOf_107 (rIc rfl) hf
              · have hf := ite_f hc7 hf
                by_cases hc8 : a1 = 62
                · have hf := ite_t hc8 hf
                  refine r_lookup (tgt := 106) (off := 105) h dX3_bindingOf_1 (by decide) ra1 (by rw [hc8]; rfl) (by decide) ?_
                  refine r_iconst h dX3_bindingOf_106 ?_
                  exact r_ret1 hr dX3_bindingOf_107 (rIc rfl) hf
                · have hf := ite_f hc8 hf
                  by_cases hc9 : a1 = 271
                  · have hf := ite_t hc9 hf
                    refine r_lookup (tgt := 100) (off := 99) h dX3_bindingOf_1 (by decide) ra1 (by rw [hc9]; rfl) (by decide) ?_
                    refine r_iconst h dX3_bindingOf_100 ?_
                    exact r_ret1 hr dX3_bindingOf_101 (rIc rfl) hf
                  · have hf := ite_f hc9 hf
                    by_cases hc10 : a1 = 272
                    · have hf := ite_t hc10 hf
                      refine r_lookup (tgt := 102) (off := 101) h dX3_bindingOf_1 (by decide) ra1 (by rw [hc10]; rfl) (by decide) ?_
                      refine r_iconst h dX3_bindingOf_102 ?_
                      exact r_ret1 hr dX3_bindingOf_103 (rIc rfl) hf
                    · have hf := ite_f hc10 hf
                      by_cases hc11 : a1 = 273
                      · have hf := ite_t hc11 hf
                        refine r_lookup (tgt := 104) (off := 103) h dX3_bindingOf_1 (by decide) ra1 (by rw [hc11]; rfl) (by decide) ?_
                        refine r_iconst h dX3_bindingOf_104 ?_
                        exact r_ret1 hr dX3_bindingOf_105 (rIc rfl) hf
                      · have hf := ite_f hc11 hf
                        refine r_lookup (tgt := 113) (off := 112) h dX3_bindingOf_1 (by decide) ra1 (by simp only [Op.lookupswitch.offset_cons, Op.lookupswitch.offset_nil]; rw [if_neg (fun z => hc1 z.symm)]; rw [if_neg (fun z => hc2 z.symm)]; rw [if_neg (fun z => hc3 z.symm)]; rw [if_neg (fun z => hc4 z.symm)]; rw [if_neg (fun z => hc5 z.symm)]; rw [if_neg (fun z => hc6 z.symm)]; rw [if_neg (fun z => hc7 z.symm)]; rw [if_neg (fun z => hc8 z.symm)]; rw [if_neg (fun z => hc9 z.symm)]; rw [if_neg (fun z => hc10 z.symm)]; rw [if_neg (fun z => hc11 z.symm)]) (by decide) ?_
                        refine r_iconst h dX3_bindingOf_113 ?_
                        exact r_ret1 hr dX3_bindingOf_114 (rIc rfl) hf
set_option maxRecDepth 20000 in
theorem m_FR_bindingOnTop {l : Launch} {D : va_G} {cs : Nat → ClassId} {aS aV : Nat} {A : Nat → Prop} {ad : Nat → Nat} {n : Nat} {nl : Nat → Nat → Bool} {out : Int × SS} (hw : w_WH n nl) (ht : 44 < n) {s0 : SS} (hs0 : rS s0) (hf : f_FR_bindingOnTop s0 = some out) : w_MC l D cs aS aV A yX3_bindingOnTop cX3_bindingOnTop 1 1 rm_FR_bindingOnTop ad n nl [.ref (ad 44)] s0 (w_Po ad n nl out) := by
  refine w_MC_of (by decide +kernel) (by decide) hs0 (Nat.le_of_ble_eq_true rfl) (fun K h hr => ?_)
  refine r_lv (lv' := [(0, .ref (ad 44))]) rfl ?_
  unfold f_FR_bindingOnTop at hf
  refine r_rS h (fun hs0 => ?_)
  refine r_aload_n h dX3_bindingOnTop_0 rfl 0 rfl ?_
  refine g_X3_24 h dX3_bindingOnTop_1 ht rC_44 ?_
  refine r_if_le (tgt := 36) h dX3_bindingOnTop_4 (by decide) (hs0.1 _ _) (fun hc1 => ?_) (fun hc1 => ?_)
  · have hf := ite_t hc1 hf
    refine r_iconst h dX3_bindingOnTop_36 ?_
    exact r_ret1 hr dX3_bindingOnTop_37 (rIc rfl) hf
  · have hf := ite_f hc1 hf
    refine r_aload_n h dX3_bindingOnTop_7 rfl 0 rfl ?_
    refine g_X3_24 h dX3_bindingOnTop_8 ht rC_44 ?_
    refine r_aload_n h dX3_bindingOnTop_11 rfl 0 rfl ?_
    have hq2 := w_ref hw ht rC_44 (by decide) (k := 1) (by decide) rf_3_1
    refine g_X3_9 h dX3_bindingOnTop_12 ht rC_44 hq2.1 ?_
    refine r_alen (N := 60) h dX3_bindingOnTop_15 hq2.2 rC_45 (Or.inr (Or.inl rfl)) (by rw [rN_45]; rfl) ?_
    refine r_icmp_gt (tgt := 36) h dX3_bindingOnTop_16 (by decide) (hs0.1 _ _) (rIc rfl) (fun hc3 => ?_) (fun hc3 => ?_)
    · have hf := ite_t hc3 hf
      refine r_iconst h dX3_bindingOnTop_36 ?_
      exact r_ret1 hr dX3_bindingOnTop_37 (rIc rfl) hf
    · have hf := ite_f hc3 hf
      refine r_aload_n h dX3_bindingOnTop_19 rfl 0 rfl ?_
      have hq4 := w_ref hw ht rC_44 (by decide) (k := 1) (by decide) rf_3_1
      refine g_X3_9 h dX3_bindingOnTop_20 ht rC_44 hq4.1 ?_
      refine r_aload_n h dX3_bindingOnTop_23 rfl 0 rfl ?_
      refine g_X3_24 h dX3_bindingOnTop_24 ht rC_44 ?_
      refine r_iconst h dX3_bindingOnTop_27 ?_
      refine r_isub h dX3_bindingOnTop_28 ?_
      obtain ⟨hi5, hf⟩ := oc_some hf
      refine r_iald h dX3_bindingOnTop_29 hq4.2 rC_45 (rI_iw _) (N := 60) (by rw [rN_45]; rfl) (j := (iw ((gi s0 44 2) - 1)).toNat) rfl hi5 ?_
      obtain ⟨r6, s6, hq6, hf⟩ := ob_some hf
      refine r_callS1 h [.int (vI (gi s0 45 ((iw ((gi s0 44 2) - 1)).toNat)))] dX3_bindingOnTop_30 (fun hs => m_FR_bindingOf hw (hs0.1 _ _) hs hq6) ml_X3_75 cv_FR_bindingOf rfl ⟨rfl, rfl⟩ ⟨Nat.le_of_ble_eq_true rfl, Nat.le_of_ble_eq_true rfl⟩ ⟨Nat.le_of_ble_eq_true rfl, Nat.le_of_ble_eq_true rfl⟩ (Nat.le_of_ble_eq_true rfl) rfl (fun hr6 hs6 => ?_)
      refine r_goto (tgt := 37) h dX3_bindingOnTop_33 (by decide) ?_
      exact r_ret1 hr dX3_bindingOnTop_37 hr6 hf
set_option maxRecDepth 20000 in
theorem b_FR_settle_0 {l : Launch} {D : va_G} {cs : Nat → ClassId} {aS aV : Nat} {A : Nat → Prop} {K : KT} {ad : Nat → Nat} {n : Nat} {nl : Nat → Nat → Bool} {out : Int × SS} (h : w_Cl l rm_FR_settle D cs aS aV A cX3_settle 3 RX3 "settle" K) (hr : w_Rt 0 cX3_settle 0 0 (w_Po ad n nl out) K) (hw : w_WH n nl) (ht : 44 < n) {u1 : Nat} (pu1 : u1 < n) (pc1 : rC u1 = 2) {y2 : Int} (ry2 : rI y2) : ∀ (fu : Nat) (s0 : SS), l_FR_settle_0 u1 y2 fu s0 = some out → K ad n nl 0 0 0 [(0, .ref (ad 44)), (1, .ref (ad u1)), (2, .int (vI y2))] [] s0 := by
  intro fu
  induction fu with
  | zero =>
    intro s0 hf
    rw [l_FR_settle_0] at hf
    cases hf
  | succ fu ih =>
    intro s0 hf
    rw [l_FR_settle_0] at hf
    refine r_rS h (fun hs0 => ?_)
    refine r_aload_n h dX3_settle_0 rfl 0 rfl ?_
    refine g_X3_24 h dX3_settle_1 ht rC_44 ?_
    refine r_if_le (tgt := 78) h dX3_settle_4 (by decide) (hs0.1 _ _) (fun hc1 => ?_) (fun hc1 => ?_)
    · have hf := ite_t hc1 hf
      exact r_ret0 (x := 0) hr dX3_settle_78 hf
    · have hf := ite_f hc1 hf
      refine r_aload_n h dX3_settle_7 rfl 0 rfl ?_
      refine g_X3_24 h dX3_settle_8 ht rC_44 ?_
      refine r_aload_n h dX3_settle_11 rfl 0 rfl ?_
      have hq2 := w_ref hw ht rC_44 (by decide) (k := 1) (by decide) rf_3_1
      refine g_X3_9 h dX3_settle_12 ht rC_44 hq2.1 ?_
      refine r_alen (N := 60) h dX3_settle_15 hq2.2 rC_45 (Or.inr (Or.inl rfl)) (by rw [rN_45]; rfl) ?_
      refine r_icmp_gt (tgt := 78) h dX3_settle_16 (by decide) (hs0.1 _ _) (rIc rfl) (fun hc3 => ?_) (fun hc3 => ?_)
      · have hf := ite_t hc3 hf
        exact r_ret0 (x := 0) hr dX3_settle_78 hf
      · have hf := ite_f hc3 hf
        refine r_aload_n h dX3_settle_19 rfl 0 rfl ?_
        obtain ⟨r4, s4, hq4, hf⟩ := ob_some hf
        refine r_callV1 h [] dX3_settle_20 (fun hs => m_FR_bindingOnTop hw ht hs hq4) ml_X3_78 cv_FR_bindingOnTop rfl (co := 3) rfl (by decide) ht rC_44 ⟨rfl, rfl⟩ ⟨Nat.le_of_ble_eq_true rfl, Nat.le_of_ble_eq_true rfl⟩ ⟨Nat.le_of_ble_eq_true rfl, Nat.le_of_ble_eq_true rfl⟩ (Nat.le_of_ble_eq_true rfl) rfl (fun hr4 hs4 => ?_)
        refine r_iload_n h dX3_settle_23 rfl 2 rfl ?_
        refine r_icmp_lt (tgt := 78) h dX3_settle_24 (by decide) hr4 ry2 (fun hc5 => ?_) (fun hc5 => ?_)
        · have hf := ite_t hc5 hf
          exact r_ret0 (x := 0) hr dX3_settle_78 hf
        · have hf := ite_f hc5 hf
          refine r_aload_n h dX3_settle_27 rfl 0 rfl ?_
          refine r_dup h dX3_settle_28 rfl ?_
          refine g_X3_24 h dX3_settle_29 ht rC_44 ?_
          refine r_iconst h dX3_settle_32 ?_
          refine r_isub h dX3_settle_33 ?_
          refine p_X3_24 h dX3_settle_34 ht rC_44 (rI_iw _) ?_
          refine r_os hf (fun s6 hf => ?_)
          refine r_rS h (fun hs6 => ?_)
          refine r_aload_n h dX3_settle_37 rfl 1 rfl ?_
          refine r_aload_n h dX3_settle_38 rfl 0 rfl ?_
          have hq7 := w_ref hw ht rC_44 (by decide) (k := 1) (by decide) rf_3_1
          refine g_X3_9 h dX3_settle_39 ht rC_44 hq7.1 ?_
          refine r_aload_n h dX3_settle_42 rfl 0 rfl ?_
          refine g_X3_24 h dX3_settle_43 ht rC_44 ?_
          obtain ⟨hi8, hf⟩ := oc_some hf
          refine r_iald h dX3_settle_46 hq7.2 rC_45 (hs6.1 _ _) (N := 60) (by rw [rN_45]; rfl) (j := (gi s6 44 2).toNat) rfl hi8 ?_
          obtain ⟨r9, s9, hq9, hf⟩ := ob_some hf
          refine r_callV0 h [.int (vI (gi s6 45 ((gi s6 44 2).toNat)))] dX3_settle_47 (fun hs => m_Fo_addOperator hw pu1 pc1 (hs6.1 _ _) hs hq9) ml_X3_85 cv_Fo_addOperator rfl (co := 2) rfl (by decide) pu1 pc1 ⟨rfl, rfl⟩ ⟨Nat.le_of_ble_eq_true rfl, Nat.le_of_ble_eq_true rfl⟩ ⟨Nat.le_of_ble_eq_true rfl, Nat.le_of_ble_eq_true rfl⟩ (Nat.le_of_ble_eq_true rfl) rfl (fun hr9 hs9 => ?_)
          refine r_aload_n h dX3_settle_50 rfl 0 rfl ?_
          have hq10 := w_ref hw ht rC_44 (by decide) (k := 1) (by decide) rf_3_1
          refine g_X3_9 h dX3_settle_51 ht rC_44 hq10.1 ?_
          refine r_aload_n h dX3_settle_54 rfl 0 rfl ?_
          refine g_X3_24 h dX3_settle_55 ht rC_44 ?_
          obtain ⟨hi11, hf⟩ := oc_some hf
          refine r_iald h dX3_settle_58 hq10.2 rC_45 (hs9.1 _ _) (N := 60) (by rw [rN_45]; rfl) (j := (gi s9 44 2).toNat) rfl hi11 ?_
          refine r_sipush h dX3_settle_59 (by decide) ?_
          refine r_icmp_ne (tgt := 0) h dX3_settle_62 (by decide) (hs9.1 _ _) (rIc rfl) (fun hc12 => ?_) (fun hc12 => ?_)
          · have hf := ite_f hc12 hf
            exact ih s9 hf
          · have hf := ite_nf hc12 hf
            refine r_aload_n h dX3_settle_65 rfl 0 rfl ?_
            refine r_dup h dX3_settle_66 rfl ?_
            refine g_X3_31 h dX3_settle_67 ht rC_44 ?_
            refine r_iconst h dX3_settle_70 ?_
            refine r_isub h dX3_settle_71 ?_
            refine p_X3_31 h dX3_settle_72 ht rC_44 (rI_iw _) ?_
            refine r_os hf (fun s13 hf => ?_)
            refine r_rS h (fun hs13 => ?_)
            refine r_goto (tgt := 0) h dX3_settle_75 (by decide) ?_
            exact ih s13 hf
set_option maxRecDepth 20000 in
theorem m_FR_settle {l : Launch} {D : va_G} {cs : Nat → ClassId} {aS aV : Nat} {A : Nat → Prop} {ad : Nat → Nat} {n : Nat} {nl : Nat → Nat → Bool} {out : Int × SS} (hw : w_WH n nl) (ht : 44 < n) {u1 : Nat} (pu1 : u1 < n) (pc1 : rC u1 = 2) {a2 : Int} (ra2 : rI a2) {s0 : SS} (hs0 : rS s0) (hf : f_FR_settle u1 a2 s0 = some out) : w_MC l D cs aS aV A yX3_settle cX3_settle 3 0 rm_FR_settle ad n nl [.ref (ad 44), .ref (ad u1), .int (vI a2)] s0 (w_Po ad n nl out) := by
  refine w_MC_of (by decide +kernel) (by decide) hs0 (Nat.le_of_ble_eq_true rfl) (fun K h hr => ?_)
  refine r_lv (lv' := [(0, .ref (ad 44)), (1, .ref (ad u1)), (2, .int (vI a2))]) rfl ?_
  unfold f_FR_settle at hf
  exact b_FR_settle_0 h hr hw ht pu1 pc1 ra2 FU s0 hf
set_option maxRecDepth 20000 in
theorem m_FR_await {l : Launch} {D : va_G} {cs : Nat → ClassId} {aS aV : Nat} {A : Nat → Prop} {ad : Nat → Nat} {n : Nat} {nl : Nat → Nat → Bool} {out : Int × SS} (hw : w_WH n nl) (ht : 44 < n) {a1 : Int} (ra1 : rI a1) {s0 : SS} (hs0 : rS s0) (hf : f_FR_await a1 s0 = some out) : w_MC l D cs aS aV A yX3_await cX3_await 2 2 rm_FR_await ad n nl [.ref (ad 44), .int (vI a1)] s0 (w_Po ad n nl out) := by
  refine w_MC_of (by decide +kernel) (by decide) hs0 (Nat.le_of_ble_eq_true rfl) (fun K h hr => ?_)
  refine r_lv (lv' := [(0, .ref (ad 44)), (1, .int (vI a1))]) rfl ?_
  unfold f_FR_await at hf
  refine r_rS h (fun hs0 => ?_)
  refine r_aload_n h dX3_await_0 rfl 0 rfl ?_
  refine g_X3_24 h dX3_await_1 ht rC_44 ?_
  refine r_if_lt (tgt := 19) h dX3_await_4 (by decide) (hs0.1 _ _) (fun hc1 => ?_) (fun hc1 => ?_)
  · have hf := ite_t hc1 hf
    refine r_iconst h dX3_await_19 ?_
    exact r_ret2 hr dX3_await_20 (Or.inl rfl) hf
  · have hf := ite_f hc1 hf
    refine r_aload_n h dX3_await_7 rfl 0 rfl ?_
    refine g_X3_24 h dX3_await_8 ht rC_44 ?_
    refine r_aload_n h dX3_await_11 rfl 0 rfl ?_
    have hq2 := w_ref hw ht rC_44 (by decide) (k := 1) (by decide) rf_3_1
    refine g_X3_9 h dX3_await_12 ht rC_44 hq2.1 ?_
    refine r_alen (N := 60) h dX3_await_15 hq2.2 rC_45 (Or.inr (Or.inl rfl)) (by rw [rN_45]; rfl) ?_
    refine r_icmp_lt (tgt := 21) h dX3_await_16 (by decide) (hs0.1 _ _) (rIc rfl) (fun hc3 => ?_) (fun hc3 => ?_)
    · have hf := ite_t hc3 hf
      refine r_aload_n h dX3_await_21 rfl 0 rfl ?_
      have hq4 := w_ref hw ht rC_44 (by decide) (k := 1) (by decide) rf_3_1
      refine g_X3_9 h dX3_await_22 ht rC_44 hq4.1 ?_
      refine r_aload_n h dX3_await_25 rfl 0 rfl ?_
      refine g_X3_24 h dX3_await_26 ht rC_44 ?_
      refine r_iload_n h dX3_await_29 rfl 1 rfl ?_
      obtain ⟨hi5, hf⟩ := oc_some hf
      refine r_iast h dX3_await_30 hq4.2 rC_45 (hs0.1 _ _) (N := 60) (by rw [rN_45]; rfl) (j := (gi s0 44 2).toNat) rfl hi5 ra1 ?_
      refine r_os hf (fun s6 hf => ?_)
      refine r_rS h (fun hs6 => ?_)
      refine r_aload_n h dX3_await_31 rfl 0 rfl ?_
      refine r_dup h dX3_await_32 rfl ?_
      refine g_X3_24 h dX3_await_33 ht rC_44 ?_
      refine r_iconst h dX3_await_36 ?_
      refine r_iadd h dX3_await_37 ?_
      refine p_X3_24 h dX3_await_38 ht rC_44 (rI_iw _) ?_
      refine r_os hf (fun s7 hf => ?_)
      refine r_rS h (fun hs7 => ?_)
      refine r_iconst h dX3_await_41 ?_
      exact r_ret2 hr dX3_await_42 (Or.inr rfl) hf
    · have hf := ite_f hc3 hf
      refine r_iconst h dX3_await_19 ?_
      exact r_ret2 hr dX3_await_20 (Or.inl rfl) hf
set_option maxRecDepth 20000 in
theorem b_FR_readBehindUnit_107 {l : Launch} {D : va_G} {cs : Nat → ClassId} {aS aV : Nat} {A : Nat → Prop} {K : KT} {ad : Nat → Nat} {n : Nat} {nl : Nat → Nat → Bool} {out : Int × SS} (h : w_Cl l rm_FR_readBehindUnit D cs aS aV A cX3_readBehindUnit 4 RX3 "readBehindUnit" K) (hr : w_Rt 1 cX3_readBehindUnit 0 0 (w_Po ad n nl out) K) (hw : w_WH n nl) (ht : 44 < n) {u1 : Nat} (pu1 : u1 < n) (pc1 : rC u1 = 2) (x2 : Int) (x3 : Int) (s0 : SS) (rx2 : rI x2) (rx3 : rI x3) (hf : j_FR_readBehindUnit_107 u1 x2 x3 s0 = some out) : K ad n nl 0 0 107 [(0, .ref (ad 44)), (2, .int (vI x2)), (3, .int (vI x3))] [] s0 := by
  unfold j_FR_readBehindUnit_107 at hf
  refine r_rS h (fun hs0 => ?_)
  refine r_aload_n h dX3_readBehindUnit_107 rfl 0 rfl ?_
  refine r_iload_n h dX3_readBehindUnit_108 rfl 1 rfl ?_
  obtain ⟨r1, s1, hq1, hf⟩ := ob_some hf
  refine r_callV2 h [.int (vI x2)] dX3_readBehindUnit_109 (fun hs => m_FR_await hw ht rx2 hs hq1) ml_X3_82 cv_FR_await rfl (co := 3) rfl (by decide) ht rC_44 ⟨rfl, rfl⟩ ⟨Nat.le_of_ble_eq_true rfl, Nat.le_of_ble_eq_true rfl⟩ ⟨Nat.le_of_ble_eq_true rfl, Nat.le_of_ble_eq_true rfl⟩ (Nat.le_of_ble_eq_true rfl) rfl (fun hr1 hs1 => ?_)
  refine r_if_ne (tgt := 117) h dX3_readBehindUnit_112 (by decide) (rI_b hr1) (fun hc2 => ?_) (fun hc2 => ?_)
  · have hf := ite_f hc2 hf
    refine r_iload_n h dX3_readBehindUnit_117 rfl 2 rfl ?_
    refine r_iconst h dX3_readBehindUnit_118 ?_
    refine r_icmp_ge (tgt := 126) h dX3_readBehindUnit_119 (by decide) rx3 (rIc rfl) (fun hc3 => ?_) (fun hc3 => ?_)
    · have hf := ite_t hc3 hf
      refine r_iconst h dX3_readBehindUnit_126 ?_
      exact r_ret1 hr dX3_readBehindUnit_127 (rIc rfl) hf
    · have hf := ite_f hc3 hf
      refine r_iconst h dX3_readBehindUnit_122 ?_
      refine r_goto (tgt := 127) h dX3_readBehindUnit_123 (by decide) ?_
      exact r_ret1 hr dX3_readBehindUnit_127 (rIc rfl) hf
  · have hf := ite_nf hc2 hf
    refine r_iconst h dX3_readBehindUnit_115 ?_
    exact r_ret1 hr dX3_readBehindUnit_116 (rIc rfl) hf
set_option maxRecDepth 20000 in
theorem b_FR_readBehindUnit_89 {l : Launch} {D : va_G} {cs : Nat → ClassId} {aS aV : Nat} {A : Nat → Prop} {K : KT} {ad : Nat → Nat} {n : Nat} {nl : Nat → Nat → Bool} {out : Int × SS} (h : w_Cl l rm_FR_readBehindUnit D cs aS aV A cX3_readBehindUnit 4 RX3 "readBehindUnit" K) (hr : w_Rt 1 cX3_readBehindUnit 0 0 (w_Po ad n nl out) K) (hw : w_WH n nl) (ht : 44 < n) {u1 : Nat} (pu1 : u1 < n) (pc1 : rC u1 = 2) (x2 : Int) (x3 : Int) (z2 : Int) (s0 : SS) (rx2 : rI x2) (rx3 : rI x3) (rz2 : rI z2) (hf : j_FR_readBehindUnit_89 u1 x2 x3 z2 s0 = some out) : K ad n nl 0 0 89 [(0, .ref (ad 44)), (2, .int (vI x2)), (3, .int (vI x3))] [.int (vI z2), .ref (ad u1), .ref (ad 44)] s0 := by
  unfold j_FR_readBehindUnit_89 at hf
  refine r_rS h (fun hs0 => ?_)
  obtain ⟨r1, s1, hq1, hf⟩ := ob_some hf
  refine r_callV0 h [.ref (ad u1), .int (vI z2)] dX3_readBehindUnit_89 (fun hs => m_FR_settle hw ht pu1 pc1 rz2 hs hq1) ml_X3_39 cv_FR_settle rfl (co := 3) rfl (by decide) ht rC_44 ⟨rfl, rfl⟩ ⟨Nat.le_of_ble_eq_true rfl, Nat.le_of_ble_eq_true rfl⟩ ⟨Nat.le_of_ble_eq_true rfl, Nat.le_of_ble_eq_true rfl⟩ (Nat.le_of_ble_eq_true rfl) rfl (fun hr1 hs1 => ?_)
  refine r_iload_n h dX3_readBehindUnit_92 rfl 2 rfl ?_
  refine r_iconst h dX3_readBehindUnit_93 ?_
  refine r_icmp_ne (tgt := 107) h dX3_readBehindUnit_94 (by decide) rx3 (rIc rfl) (fun hc2 => ?_) (fun hc2 => ?_)
  · have hf := ite_f hc2 hf
    exact b_FR_readBehindUnit_107 h hr hw ht pu1 pc1 x2 x3 s1 rx2 rx3 hf
  · have hf := ite_nf hc2 hf
    refine r_aload_n h dX3_readBehindUnit_97 rfl 0 rfl ?_
    obtain ⟨r3, s3, hq3, hf⟩ := ob_some hf
    refine r_callV1 h [] dX3_readBehindUnit_98 (fun hs => m_FR_bindingOnTop hw ht hs hq3) ml_X3_78 cv_FR_bindingOnTop rfl (co := 3) rfl (by decide) ht rC_44 ⟨rfl, rfl⟩ ⟨Nat.le_of_ble_eq_true rfl, Nat.le_of_ble_eq_true rfl⟩ ⟨Nat.le_of_ble_eq_true rfl, Nat.le_of_ble_eq_true rfl⟩ (Nat.le_of_ble_eq_true rfl) rfl (fun hr3 hs3 => ?_)
    refine r_iconst h dX3_readBehindUnit_101 ?_
    refine r_icmp_ne (tgt := 107) h dX3_readBehindUnit_102 (by decide) hr3 (rIc rfl) (fun hc4 => ?_) (fun hc4 => ?_)
    · have hf := ite_f hc4 hf
      exact b_FR_readBehindUnit_107 h hr hw ht pu1 pc1 x2 x3 s3 rx2 rx3 hf
    · have hf := ite_nf hc4 hf
      refine r_iconst h dX3_readBehindUnit_105 ?_
      exact r_ret1 hr dX3_readBehindUnit_106 (rIc rfl) hf
set_option maxRecDepth 20000 in
theorem m_FR_readBehindUnit {l : Launch} {D : va_G} {cs : Nat → ClassId} {aS aV : Nat} {A : Nat → Prop} {ad : Nat → Nat} {n : Nat} {nl : Nat → Nat → Bool} {out : Int × SS} (hw : w_WH n nl) (ht : 44 < n) {u1 : Nat} (pu1 : u1 < n) (pc1 : rC u1 = 2) {s0 : SS} (hs0 : rS s0) (hf : f_FR_readBehindUnit u1 s0 = some out) : w_MC l D cs aS aV A yX3_readBehindUnit cX3_readBehindUnit 4 1 rm_FR_readBehindUnit ad n nl [.ref (ad 44), .ref (ad u1)] s0 (w_Po ad n nl out) := by
  refine w_MC_of (by decide +kernel) (by decide) hs0 (Nat.le_of_ble_eq_true rfl) (fun K h hr => ?_)
  refine r_lv (lv' := [(0, .ref (ad 44)), (1, .ref (ad u1))]) rfl ?_
  unfold f_FR_readBehindUnit at hf
  refine r_rS h (fun hs0 => ?_)
  refine r_aload_n h dX3_readBehindUnit_0 rfl 0 rfl ?_
  have hq1 := w_ref hw ht rC_44 (by decide) (k := 0) (by decide) rf_3_0
  refine g_X3_15 h dX3_readBehindUnit_1 ht rC_44 hq1.1 ?_
  refine g_X3_34 h dX3_readBehindUnit_4 hq1.2 rC_43 ?_
  refine r_ol hf (hs0.1 _ _) (fun x2_ rx2_ hf => ?_)
  refine r_istore_n h [(2, .int (vI x2_)), (0, .ref (ad 44)), (1, .ref (ad u1))] dX3_readBehindUnit_7 rfl (by decide) rfl ?_
  refine r_iload_n h dX3_readBehindUnit_8 rfl 0 rfl ?_
  refine r_bipush h dX3_readBehindUnit_9 (by decide) ?_
  refine r_icmp_ne (tgt := 61) h dX3_readBehindUnit_11 (by decide) rx2_ (rIc rfl) (fun hc3 => ?_) (fun hc3 => ?_)
  · have hf := ite_f hc3 hf
    refine r_iload_n h dX3_readBehindUnit_61 rfl 0 rfl ?_
    obtain ⟨r4, s4, hq4, hf⟩ := ob_some hf
    refine r_callS1 h [.int (vI x2_)] dX3_readBehindUnit_62 (fun hs => m_FR_bindingOf hw rx2_ hs hq4) ml_X3_75 cv_FR_bindingOf rfl ⟨rfl, rfl⟩ ⟨Nat.le_of_ble_eq_true rfl, Nat.le_of_ble_eq_true rfl⟩ ⟨Nat.le_of_ble_eq_true rfl, Nat.le_of_ble_eq_true rfl⟩ (Nat.le_of_ble_eq_true rfl) rfl (fun hr4 hs4 => ?_)
    refine r_istore_n h [(3, .int (vI r4)), (2, .int (vI x2_)), (0, .ref (ad 44)), (1, .ref (ad u1))] dX3_readBehindUnit_65 rfl (by decide) rfl ?_
    refine r_iload_n h dX3_readBehindUnit_66 rfl 0 rfl ?_
    refine r_if_eq (tgt := 75) h dX3_readBehindUnit_67 (by decide) hr4 (fun hc5 => ?_) (fun hc5 => ?_)
    · have hf := ite_t hc5 hf
      refine r_iconst h dX3_readBehindUnit_75 ?_
      exact r_ret1 hr dX3_readBehindUnit_76 (rIc rfl) hf
    · have hf := ite_f hc5 hf
      refine r_iload_n h dX3_readBehindUnit_70 rfl 0 rfl ?_
      refine r_iconst h dX3_readBehindUnit_71 ?_
      refine r_icmp_ne (tgt := 77) h dX3_readBehindUnit_72 (by decide) hr4 (rIc rfl) (fun hc6 => ?_) (fun hc6 => ?_)
      · have hf := ite_f hc6 hf
        refine r_aload_n h dX3_readBehindUnit_77 rfl 2 rfl ?_
        refine r_aload_n h dX3_readBehindUnit_78 rfl 3 rfl ?_
        refine r_iload_n h dX3_readBehindUnit_79 rfl 0 rfl ?_
        refine r_iconst h dX3_readBehindUnit_80 ?_
        refine r_icmp_ne (tgt := 88) h dX3_readBehindUnit_81 (by decide) hr4 (rIc rfl) (fun hc7 => ?_) (fun hc7 => ?_)
        · have hf := ite_f hc7 hf
          refine r_iload_n h dX3_readBehindUnit_88 rfl 0 rfl ?_
          refine r_sub h [2, 1, 0] rfl ?_
          exact b_FR_readBehindUnit_89 h hr hw ht pu1 pc1 x2_ r4 r4 s4 rx2_ hr4 hr4 hf
        · have hf := ite_nf hc7 hf
          refine r_iconst h dX3_readBehindUnit_84 ?_
          refine r_goto (tgt := 89) h dX3_readBehindUnit_85 (by decide) ?_
          refine r_sub h [2, 1, 0] rfl ?_
          exact b_FR_readBehindUnit_89 h hr hw ht pu1 pc1 x2_ r4 5 s4 rx2_ hr4 (rIc rfl) hf
      · have hf := ite_nf hc6 hf
        refine r_iconst h dX3_readBehindUnit_75 ?_
        exact r_ret1 hr dX3_readBehindUnit_76 (rIc rfl) hf
  · have hf := ite_nf hc3 hf
    refine r_aload_n h dX3_readBehindUnit_14 rfl 1 rfl ?_
    refine g_X3_28 h dX3_readBehindUnit_15 ht rC_44 ?_
    refine r_if_ne (tgt := 23) h dX3_readBehindUnit_18 (by decide) (hs0.1 _ _) (fun hc8 => ?_) (fun hc8 => ?_)
    · have hf := ite_f hc8 hf
      refine r_aload_n h dX3_readBehindUnit_23 rfl 1 rfl ?_
      refine r_aload_n h dX3_readBehindUnit_24 rfl 2 rfl ?_
      refine r_iconst h dX3_readBehindUnit_25 ?_
      obtain ⟨r9, s9, hq9, hf⟩ := ob_some hf
      refine r_callV0 h [.ref (ad u1), .int (vI 1)] dX3_readBehindUnit_26 (fun hs => m_FR_settle hw ht pu1 pc1 (rIc rfl) hs hq9) ml_X3_39 cv_FR_settle rfl (co := 3) rfl (by decide) ht rC_44 ⟨rfl, rfl⟩ ⟨Nat.le_of_ble_eq_true rfl, Nat.le_of_ble_eq_true rfl⟩ ⟨Nat.le_of_ble_eq_true rfl, Nat.le_of_ble_eq_true rfl⟩ (Nat.le_of_ble_eq_true rfl) rfl (fun hr9 hs9 => ?_)
      refine r_aload_n h dX3_readBehindUnit_29 rfl 1 rfl ?_
      refine r_dup h dX3_readBehindUnit_30 rfl ?_
      refine g_X3_24 h dX3_readBehindUnit_31 ht rC_44 ?_
      refine r_iconst h dX3_readBehindUnit_34 ?_
      refine r_isub h dX3_readBehindUnit_35 ?_
      refine p_X3_24 h dX3_readBehindUnit_36 ht rC_44 (rI_iw _) ?_
      refine r_os hf (fun s10 hf => ?_)
      refine r_rS h (fun hs10 => ?_)
      refine r_aload_n h dX3_readBehindUnit_39 rfl 1 rfl ?_
      refine r_dup h dX3_readBehindUnit_40 rfl ?_
      refine g_X3_28 h dX3_readBehindUnit_41 ht rC_44 ?_
      refine r_iconst h dX3_readBehindUnit_44 ?_
      refine r_isub h dX3_readBehindUnit_45 ?_
      refine p_X3_28 h dX3_readBehindUnit_46 ht rC_44 (rI_iw _) ?_
      refine r_os hf (fun s11 hf => ?_)
      refine r_rS h (fun hs11 => ?_)
      refine r_aload_n h dX3_readBehindUnit_49 rfl 1 rfl ?_
      refine r_dup h dX3_readBehindUnit_50 rfl ?_
      refine g_X3_31 h dX3_readBehindUnit_51 ht rC_44 ?_
      refine r_iconst h dX3_readBehindUnit_54 ?_
      refine r_isub h dX3_readBehindUnit_55 ?_
      refine p_X3_31 h dX3_readBehindUnit_56 ht rC_44 (rI_iw _) ?_
      refine r_os hf (fun s12 hf => ?_)
      refine r_rS h (fun hs12 => ?_)
      refine r_iconst h dX3_readBehindUnit_59 ?_
      exact r_ret1 hr dX3_readBehindUnit_60 (rIc rfl) hf
    · have hf := ite_nf hc8 hf
      refine r_iconst h dX3_readBehindUnit_21 ?_
      exact r_ret1 hr dX3_readBehindUnit_22 (rIc rfl) hf
set_option maxRecDepth 20000 in
theorem m_FR_nest {l : Launch} {D : va_G} {cs : Nat → ClassId} {aS aV : Nat} {A : Nat → Prop} {ad : Nat → Nat} {n : Nat} {nl : Nat → Nat → Bool} {out : Int × SS} (hw : w_WH n nl) (ht : 44 < n) {a1 : Int} (ra1 : rI a1) {s0 : SS} (hs0 : rS s0) (hf : f_FR_nest a1 s0 = some out) : w_MC l D cs aS aV A yX3_nest cX3_nest 2 2 rm_FR_nest ad n nl [.ref (ad 44), .int (vI a1)] s0 (w_Po ad n nl out) := by
  refine w_MC_of (by decide +kernel) (by decide) hs0 (Nat.le_of_ble_eq_true rfl) (fun K h hr => ?_)
  refine r_lv (lv' := [(0, .ref (ad 44)), (1, .int (vI a1))]) rfl ?_
  unfold f_FR_nest at hf
  refine r_rS h (fun hs0 => ?_)
  refine r_aload_n h dX3_nest_0 rfl 0 rfl ?_
  refine g_X3_31 h dX3_nest_1 ht rC_44 ?_
  refine r_bipush h dX3_nest_4 (by decide) ?_
  refine r_icmp_gt (tgt := 17) h dX3_nest_6 (by decide) (hs0.1 _ _) (rIc rfl) (fun hc1 => ?_) (fun hc1 => ?_)
  · have hf := ite_t hc1 hf
    refine r_iconst h dX3_nest_17 ?_
    exact r_ret2 hr dX3_nest_18 (Or.inl rfl) hf
  · have hf := ite_f hc1 hf
    refine r_aload_n h dX3_nest_9 rfl 0 rfl ?_
    refine r_iload_n h dX3_nest_10 rfl 1 rfl ?_
    obtain ⟨r2, s2, hq2, hf⟩ := ob_some hf
    refine r_callV2 h [.int (vI a1)] dX3_nest_11 (fun hs => m_FR_await hw ht ra1 hs hq2) ml_X3_82 cv_FR_await rfl (co := 3) rfl (by decide) ht rC_44 ⟨rfl, rfl⟩ ⟨Nat.le_of_ble_eq_true rfl, Nat.le_of_ble_eq_true rfl⟩ ⟨Nat.le_of_ble_eq_true rfl, Nat.le_of_ble_eq_true rfl⟩ (Nat.le_of_ble_eq_true rfl) rfl (fun hr2 hs2 => ?_)
    refine r_if_ne (tgt := 19) h dX3_nest_14 (by decide) (rI_b hr2) (fun hc3 => ?_) (fun hc3 => ?_)
    · have hf := ite_f hc3 hf
      refine r_aload_n h dX3_nest_19 rfl 0 rfl ?_
      refine r_dup h dX3_nest_20 rfl ?_
      refine g_X3_31 h dX3_nest_21 ht rC_44 ?_
      refine r_iconst h dX3_nest_24 ?_
      refine r_iadd h dX3_nest_25 ?_
      refine p_X3_31 h dX3_nest_26 ht rC_44 (rI_iw _) ?_
      refine r_os hf (fun s4 hf => ?_)
      refine r_rS h (fun hs4 => ?_)
      refine r_iconst h dX3_nest_29 ?_
      exact r_ret2 hr dX3_nest_30 (Or.inr rfl) hf
    · have hf := ite_nf hc3 hf
      refine r_iconst h dX3_nest_17 ?_
      exact r_ret2 hr dX3_nest_18 (Or.inl rfl) hf
set_option maxRecDepth 20000 in
theorem m_FR_knownBy {l : Launch} {D : va_G} {cs : Nat → ClassId} {aS aV : Nat} {A : Nat → Prop} {ad : Nat → Nat} {n : Nat} {nl : Nat → Nat → Bool} {out : Int × SS} (hw : w_WH n nl) {a1 : Int} (ra1 : rI a1) {s0 : SS} (hs0 : rS s0) (hf : f_FR_knownBy a1 s0 = some out) : w_MC l D cs aS aV A yX3_knownBy cX3_knownBy 1 1 rm_FR_knownBy ad n nl [.int (vI a1)] s0 (w_Po ad n nl out) := by
  refine w_MC_of (by decide +kernel) (by decide) hs0 (Nat.le_of_ble_eq_true rfl) (fun K h hr => ?_)
  refine r_lv (lv' := [(0, .int (vI a1))]) rfl ?_
  unfold f_FR_knownBy at hf
  refine r_rS h (fun hs0 => ?_)
  refine r_iload_n h dX3_knownBy_0 rfl 0 rfl ?_
  by_cases hc1 : a1 = 263
  · have hf := ite_t hc1 hf
    refine r_tableIn (tgt := 76) h dX3_knownBy_1 hc1 (rIc rfl) (by decide) (by decide) (off := 75) rfl (by decide) ?_
    refine r_iconst h dX3_knownBy_76 ?_
    exact r_ret1 hr dX3_knownBy_77 (rIc rfl) hf
  · have hf := ite_f hc1 hf
    by_cases hc2 : a1 = 264
    · have hf := ite_t hc2 hf
      refine r_tableIn (tgt := 78) h dX3_knownBy_1 hc2 (rIc rfl) (by decide) (by decide) (off := 77) rfl (by decide) ?_
      refine r_iconst h dX3_knownBy_78 ?_
      exact r_ret1 hr dX3_knownBy_79 (rIc rfl) hf
    · have hf := ite_f hc2 hf
      by_cases hc3 : a1 = 268
      · have hf := ite_t hc3 hf
        refine r_tableIn (tgt := 72) h dX3_knownBy_1 hc3 (rIc rfl) (by decide) (by decide) (off := 71) rfl (by decide) ?_
        refine r_iconst h dX3_knownBy_72 ?_
        exact r_ret1 hr dX3_knownBy_73 (rIc rfl) hf
      · have hf := ite_f hc3 hf
        by_cases hc4 : a1 = 274
        · have hf := ite_t hc4 hf
          refine r_tableIn (tgt := 74) h dX3_knownBy_1 hc4 (rIc rfl) (by decide) (by decide) (off := 73) rfl (by decide) ?_
          refine r_iconst h dX3_knownBy_74 ?_
          exact r_ret1 hr dX3_knownBy_75 (rIc rfl) hf
        · have hf := ite_f hc4 hf
          by_cases hc5 : a1 = 275
          · have hf := ite_t hc5 hf
            refine r_tableIn (tgt := 80) h dX3_knownBy_1 hc5 (rIc rfl) (by decide) (by decide) (off := 79) rfl (by decide) ?_
            refine r_iconst h dX3_knownBy_80 ?_
            exact r_ret1 hr dX3_knownBy_81 (rIc rfl) hf
          · have hf := ite_f hc5 hf
            by_cases hc6 : a1 = 276
            · have hf := ite_t hc6 hf
              refine r_tableIn (tgt := 82) h dX3_knownBy_1 hc6 (rIc rfl) (by decide) (by decide) (off := 81) rfl (by decide) ?_
              refine r_iconst h dX3_knownBy_82 ?_
              exact r_ret1 hr dX3_knownBy_83 (rIc rfl) hf
            · have hf := ite_f hc6 hf
              refine r_tableX (tgt := 84) h dX3_knownBy_1 ra1 (by
                have hz : a1 < 263 ∨ 276 < a1 ∨ a1 = 265 ∨ a1 = 266 ∨ a1 = 267 ∨ a1 = 269 ∨ a1 = 270 ∨ a1 = 271 ∨ a1 = 272 ∨ a1 = 273 := by omega
                rcases hz with q | q | q | q | q | q | q | q | q | q
                · exact Or.inl q
                · exact Or.inr (Or.inl q)
                · exact Or.inr (Or.inr ⟨83, by rw [q]; rfl, by rw [q]; decide, by rw [q]; decide, by decide⟩)
                · exact Or.inr (Or.inr ⟨83, by rw [q]; rfl, by rw [q]; decide, by rw [q]; decide, by decide⟩)
                · exact Or.inr (Or.inr ⟨83, by rw [q]; rfl, by rw [q]; decide, by rw [q]; decide, by decide⟩)
                · exact Or.inr (Or.inr ⟨83, by rw [q]; rfl, by rw [q]; decide, by rw [q]; decide, by decide⟩)
                · exact Or.inr (Or.inr ⟨83, by rw [q]; rfl, by rw [q]; decide, by rw [q]; decide, by decide⟩)
                · exact Or.inr (Or.inr ⟨83, by rw [q]; rfl, by rw [q]; decide, by rw [q]; decide, by decide⟩)
                · exact Or.inr (Or.inr ⟨83, by rw [q]; rfl, by rw [q]; decide, by rw [q]; decide, by decide⟩)
                · exact Or.inr (Or.inr ⟨83, by rw [q]; rfl, by rw [q]; decide, by rw [q]; decide, by decide⟩)
                ) (by decide) ?_
              refine r_iconst h dX3_knownBy_84 ?_
              exact r_ret1 hr dX3_knownBy_85 (rIc rfl) hf
set_option maxRecDepth 20000 in
theorem b_FR_readUnit_128 {l : Launch} {D : va_G} {cs : Nat → ClassId} {aS aV : Nat} {A : Nat → Prop} {K : KT} {ad : Nat → Nat} {n : Nat} {nl : Nat → Nat → Bool} {out : Int × SS} (h : w_Cl l rm_FR_readUnit D cs aS aV A cX3_readUnit 5 RX3 "readUnit" K) (hr : w_Rt 1 cX3_readUnit 0 0 (w_Po ad n nl out) K) (hw : w_WH n nl) (ht : 44 < n) {u1 : Nat} (pu1 : u1 < n) (pc1 : rC u1 = 2) (s0 : SS) (hf : j_FR_readUnit_128 u1 s0 = some out) : K ad n nl 0 0 128 [(1, .ref (ad u1))] [] s0 := by
  unfold j_FR_readUnit_128 at hf
  refine r_rS h (fun hs0 => ?_)
  refine r_aload_n h dX3_readUnit_128 rfl 0 rfl ?_
  refine r_dup h dX3_readUnit_129 rfl ?_
  refine g_X3_58 h dX3_readUnit_130 pu1 pc1 ?_
  refine r_iconst h dX3_readUnit_133 ?_
  refine r_iadd h dX3_readUnit_134 ?_
  refine p_X3_58 h dX3_readUnit_135 pu1 pc1 (rI_iw _) ?_
  refine r_os hf (fun s1 hf => ?_)
  refine r_rS h (fun hs1 => ?_)
  refine r_iconst h dX3_readUnit_138 ?_
  exact r_ret1 hr dX3_readUnit_139 (rIc rfl) hf
set_option maxRecDepth 20000 in
theorem m_FR_readUnit {l : Launch} {D : va_G} {cs : Nat → ClassId} {aS aV : Nat} {A : Nat → Prop} {ad : Nat → Nat} {n : Nat} {nl : Nat → Nat → Bool} {out : Int × SS} (hw : w_WH n nl) (ht : 44 < n) {u1 : Nat} (pu1 : u1 < n) (pc1 : rC u1 = 2) {a2 : Int} (ra2 : rI a2) {s0 : SS} (hs0 : rS s0) (hf : f_FR_readUnit u1 a2 s0 = some out) : w_MC l D cs aS aV A yX3_readUnit cX3_readUnit 5 1 rm_FR_readUnit ad n nl [.ref (ad 44), .ref (ad u1), .int (vI a2)] s0 (w_Po ad n nl out) := by
  refine w_MC_of (by decide +kernel) (by decide) hs0 (Nat.le_of_ble_eq_true rfl) (fun K h hr => ?_)
  refine r_lv (lv' := [(0, .ref (ad 44)), (1, .ref (ad u1)), (2, .int (vI a2))]) rfl ?_
  unfold f_FR_readUnit at hf
  refine r_rS h (fun hs0 => ?_)
  refine r_aload_n h dX3_readUnit_0 rfl 0 rfl ?_
  have hq1 := w_ref hw ht rC_44 (by decide) (k := 0) (by decide) rf_3_0
  refine g_X3_15 h dX3_readUnit_1 ht rC_44 hq1.1 ?_
  refine g_X3_34 h dX3_readUnit_4 hq1.2 rC_43 ?_
  refine r_ol hf (hs0.1 _ _) (fun x2_ rx2_ hf => ?_)
  refine r_istore_n h [(3, .int (vI x2_)), (0, .ref (ad 44)), (1, .ref (ad u1)), (2, .int (vI a2))] dX3_readUnit_7 rfl (by decide) rfl ?_
  refine r_iload_n h dX3_readUnit_8 rfl 0 rfl ?_
  refine r_sipush h dX3_readUnit_9 (by decide) ?_
  refine r_icmp_ne (tgt := 36) h dX3_readUnit_12 (by decide) rx2_ (rIc rfl) (fun hc3 => ?_) (fun hc3 => ?_)
  · have hf := ite_f hc3 hf
    refine r_aload_n h dX3_readUnit_36 rfl 2 rfl ?_
    refine g_X3_58 h dX3_readUnit_37 pu1 pc1 ?_
    refine r_bipush h dX3_readUnit_40 (by decide) ?_
    refine r_icmp_lt (tgt := 47) h dX3_readUnit_42 (by decide) (hs0.1 _ _) (rIc rfl) (fun hc4 => ?_) (fun hc4 => ?_)
    · have hf := ite_t hc4 hf
      refine r_iload_n h dX3_readUnit_47 rfl 0 rfl ?_
      refine r_bipush h dX3_readUnit_48 (by decide) ?_
      refine r_icmp_ne (tgt := 86) h dX3_readUnit_50 (by decide) rx2_ (rIc rfl) (fun hc5 => ?_) (fun hc5 => ?_)
      · have hf := ite_f hc5 hf
        refine r_iload_n h dX3_readUnit_86 rfl 0 rfl ?_
        obtain ⟨r6, s6, hq6, hf⟩ := ob_some hf
        refine r_callS1 h [.int (vI x2_)] dX3_readUnit_87 (fun hs => m_FR_knownBy hw rx2_ hs hq6) ml_X3_61 cv_FR_knownBy rfl ⟨rfl, rfl⟩ ⟨Nat.le_of_ble_eq_true rfl, Nat.le_of_ble_eq_true rfl⟩ ⟨Nat.le_of_ble_eq_true rfl, Nat.le_of_ble_eq_true rfl⟩ (Nat.le_of_ble_eq_true rfl) rfl (fun hr6 hs6 => ?_)
        refine r_istore h [(4, .int (vI r6)), (3, .int (vI x2_)), (0, .ref (ad 44)), (1, .ref (ad u1)), (2, .int (vI a2))] dX3_readUnit_90 (by decide) rfl ?_
        refine r_iload_n h dX3_readUnit_92 rfl 1 rfl ?_
        refine r_iconst h dX3_readUnit_93 ?_
        refine r_icmp_ne (tgt := 111) h dX3_readUnit_94 (by decide) rx2_ (rIc rfl) (fun hc7 => ?_) (fun hc7 => ?_)
        · have hf := ite_f hc7 hf
          refine r_iload h dX3_readUnit_111 0 rfl ?_
          refine r_iconst h dX3_readUnit_113 ?_
          refine r_icmp_eq (tgt := 126) h dX3_readUnit_114 (by decide) hr6 (rIc rfl) (fun hc8 => ?_) (fun hc8 => ?_)
          · have hf := ite_t hc8 hf
            refine r_iconst h dX3_readUnit_126 ?_
            exact r_ret1 hr dX3_readUnit_127 (rIc rfl) hf
          · have hf := ite_f hc8 hf
            refine r_aload_n h dX3_readUnit_117 rfl 3 rfl ?_
            refine r_iload h dX3_readUnit_118 0 rfl ?_
            obtain ⟨r9, s9, hq9, hf⟩ := ob_some hf
            refine r_callV0 h [.int (vI r6)] dX3_readUnit_120 (fun hs => m_Fo_addKnown hw pu1 pc1 hr6 hs hq9) ml_X3_72 cv_Fo_addKnown rfl (co := 2) rfl (by decide) pu1 pc1 ⟨rfl, rfl⟩ ⟨Nat.le_of_ble_eq_true rfl, Nat.le_of_ble_eq_true rfl⟩ ⟨Nat.le_of_ble_eq_true rfl, Nat.le_of_ble_eq_true rfl⟩ (Nat.le_of_ble_eq_true rfl) rfl (fun hr9 hs9 => ?_)
            refine r_goto (tgt := 128) h dX3_readUnit_123 (by decide) ?_
            refine r_sub h [3] rfl ?_
            exact b_FR_readUnit_128 h hr hw ht pu1 pc1 s9 hf
        · have hf := ite_nf hc7 hf
          refine r_aload_n h dX3_readUnit_97 rfl 3 rfl ?_
          refine r_aload_n h dX3_readUnit_98 rfl 2 rfl ?_
          have hq10 := w_ref hw ht rC_44 (by decide) (k := 0) (by decide) rf_3_0
          refine g_X3_15 h dX3_readUnit_99 ht rC_44 hq10.1 ?_
          refine g_X3_65 h dX3_readUnit_102 hq10.2 rC_43 ?_
          obtain ⟨r11, s11, hq11, hf⟩ := ob_some hf
          refine r_callV0 h [.int (vI (gi s6 43 5))] dX3_readUnit_105 (fun hs => m_Fo_addNumber hw pu1 pc1 (hs6.1 _ _) hs hq11) ml_X3_68 cv_Fo_addNumber rfl (co := 2) rfl (by decide) pu1 pc1 ⟨rfl, rfl⟩ ⟨Nat.le_of_ble_eq_true rfl, Nat.le_of_ble_eq_true rfl⟩ ⟨Nat.le_of_ble_eq_true rfl, Nat.le_of_ble_eq_true rfl⟩ (Nat.le_of_ble_eq_true rfl) rfl (fun hr11 hs11 => ?_)
          refine r_goto (tgt := 128) h dX3_readUnit_108 (by decide) ?_
          refine r_sub h [3] rfl ?_
          exact b_FR_readUnit_128 h hr hw ht pu1 pc1 s11 hf
      · have hf := ite_nf hc5 hf
        refine r_aload_n h dX3_readUnit_53 rfl 1 rfl ?_
        refine r_bipush h dX3_readUnit_54 (by decide) ?_
        obtain ⟨r12, s12, hq12, hf⟩ := ob_some hf
        refine r_callV2 h [.int (vI 40)] dX3_readUnit_56 (fun hs => m_FR_nest hw ht (rIc rfl) hs hq12) ml_X3_54 cv_FR_nest rfl (co := 3) rfl (by decide) ht rC_44 ⟨rfl, rfl⟩ ⟨Nat.le_of_ble_eq_true rfl, Nat.le_of_ble_eq_true rfl⟩ ⟨Nat.le_of_ble_eq_true rfl, Nat.le_of_ble_eq_true rfl⟩ (Nat.le_of_ble_eq_true rfl) rfl (fun hr12 hs12 => ?_)
        refine r_if_ne (tgt := 64) h dX3_readUnit_59 (by decide) (rI_b hr12) (fun hc13 => ?_) (fun hc13 => ?_)
        · have hf := ite_f hc13 hf
          refine r_aload_n h dX3_readUnit_64 rfl 1 rfl ?_
          refine r_dup h dX3_readUnit_65 rfl ?_
          refine g_X3_28 h dX3_readUnit_66 ht rC_44 ?_
          refine r_iconst h dX3_readUnit_69 ?_
          refine r_iadd h dX3_readUnit_70 ?_
          refine p_X3_28 h dX3_readUnit_71 ht rC_44 (rI_iw _) ?_
          refine r_os hf (fun s14 hf => ?_)
          refine r_rS h (fun hs14 => ?_)
          refine r_aload_n h dX3_readUnit_74 rfl 2 rfl ?_
          refine r_dup h dX3_readUnit_75 rfl ?_
          refine g_X3_58 h dX3_readUnit_76 pu1 pc1 ?_
          refine r_iconst h dX3_readUnit_79 ?_
          refine r_iadd h dX3_readUnit_80 ?_
          refine p_X3_58 h dX3_readUnit_81 pu1 pc1 (rI_iw _) ?_
          refine r_os hf (fun s15 hf => ?_)
          refine r_rS h (fun hs15 => ?_)
          refine r_iconst h dX3_readUnit_84 ?_
          exact r_ret1 hr dX3_readUnit_85 (rIc rfl) hf
        · have hf := ite_nf hc13 hf
          refine r_iconst h dX3_readUnit_62 ?_
          exact r_ret1 hr dX3_readUnit_63 (rIc rfl) hf
    · have hf := ite_f hc4 hf
      refine r_iconst h dX3_readUnit_45 ?_
      exact r_ret1 hr dX3_readUnit_46 (rIc rfl) hf
  · have hf := ite_nf hc3 hf
    refine r_iload_n h dX3_readUnit_15 rfl 3 rfl ?_
    refine r_iconst h dX3_readUnit_16 ?_
    refine r_icmp_ne (tgt := 34) h dX3_readUnit_17 (by decide) ra2 (rIc rfl) (fun hc16 => ?_) (fun hc16 => ?_)
    · have hf := ite_f hc16 hf
      refine r_iconst h dX3_readUnit_34 ?_
      exact r_ret1 hr dX3_readUnit_35 (rIc rfl) hf
    · have hf := ite_nf hc16 hf
      refine r_aload_n h dX3_readUnit_20 rfl 1 rfl ?_
      refine r_sipush h dX3_readUnit_21 (by decide) ?_
      obtain ⟨r17, s17, hq17, hf⟩ := ob_some hf
      refine r_callV2 h [.int (vI 273)] dX3_readUnit_24 (fun hs => m_FR_nest hw ht (rIc rfl) hs hq17) ml_X3_54 cv_FR_nest rfl (co := 3) rfl (by decide) ht rC_44 ⟨rfl, rfl⟩ ⟨Nat.le_of_ble_eq_true rfl, Nat.le_of_ble_eq_true rfl⟩ ⟨Nat.le_of_ble_eq_true rfl, Nat.le_of_ble_eq_true rfl⟩ (Nat.le_of_ble_eq_true rfl) rfl (fun hr17 hs17 => ?_)
      refine r_if_eq (tgt := 34) h dX3_readUnit_27 (by decide) (rI_b hr17) (fun hc18 => ?_) (fun hc18 => ?_)
      · have hf := ite_t hc18 hf
        refine r_iconst h dX3_readUnit_34 ?_
        exact r_ret1 hr dX3_readUnit_35 (rIc rfl) hf
      · have hf := ite_f hc18 hf
        refine r_iconst h dX3_readUnit_30 ?_
        refine r_goto (tgt := 35) h dX3_readUnit_31 (by decide) ?_
        exact r_ret1 hr dX3_readUnit_35 (rIc rfl) hf
set_option maxRecDepth 20000 in
theorem b_FR_readFormula_81 {l : Launch} {D : va_G} {cs : Nat → ClassId} {aS aV : Nat} {A : Nat → Prop} {K : KT} {ad : Nat → Nat} {n : Nat} {nl : Nat → Nat → Bool} {out : Int × SS} (h : w_Cl l rm_FR_readFormula D cs aS aV A cX3_readFormula 4 RX3 "readFormula" K) (hr : w_Rt 2 cX3_readFormula 0 0 (w_Po ad n nl out) K) (hw : w_WH n nl) (ht : 44 < n) {u1 : Nat} (pu1 : u1 < n) (pc1 : rC u1 = 2) (x3 : Int) (z0 : Int) (self23 : Int → Int → SS → OO) (hself23 : ∀ (x2 : Int) (x3 : Int) (τ : SS), rI x2 → rI x3 → self23 x2 x3 τ = some out → K ad n nl 0 0 23 [(0, .ref (ad 44)), (1, .ref (ad u1)), (2, .int (vI x2)), (3, .int (vI x3))] [] τ) (s0 : SS) (rx3 : rI x3) (rz0 : rI z0) (hf : j_FR_readFormula_81 u1 self23 x3 z0 s0 = some out) : K ad n nl 0 0 81 [(0, .ref (ad 44)), (1, .ref (ad u1)), (3, .int (vI x3))] [.int (vI z0)] s0 := by
  unfold j_FR_readFormula_81 at hf
  refine r_rS h (fun hs0 => ?_)
  refine r_istore_n h [(2, .int (vI z0)), (0, .ref (ad 44)), (1, .ref (ad u1)), (3, .int (vI x3))] dX3_readFormula_81 rfl (by decide) rfl ?_
  refine r_iload_n h dX3_readFormula_82 rfl 0 rfl ?_
  refine r_iconst h dX3_readFormula_83 ?_
  refine r_icmp_ne (tgt := 89) h dX3_readFormula_84 (by decide) rz0 (rIc rfl) (fun hc1 => ?_) (fun hc1 => ?_)
  · have hf := ite_f hc1 hf
    refine r_aload_n h dX3_readFormula_89 rfl 1 rfl ?_
    have hq2 := w_ref hw ht rC_44 (by decide) (k := 0) (by decide) rf_3_0
    refine g_X3_15 h dX3_readFormula_90 ht rC_44 hq2.1 ?_
    obtain ⟨r3, s3, hq3, hf⟩ := ob_some hf
    refine r_callV0 h [] dX3_readFormula_93 (fun hs => m_To_move hw hq2.2 hs hq3) ml_X3_51 cv_To_move rfl (co := 10) rfl (by decide) hq2.2 rC_43 ⟨rfl, rfl⟩ ⟨Nat.le_of_ble_eq_true rfl, Nat.le_of_ble_eq_true rfl⟩ ⟨Nat.le_of_ble_eq_true rfl, Nat.le_of_ble_eq_true rfl⟩ (Nat.le_of_ble_eq_true rfl) rfl (fun hr3 hs3 => ?_)
    refine r_iinc h [(3, .int (vI (iw (x3 + 1)))), (2, .int (vI z0)), (0, .ref (ad 44)), (1, .ref (ad u1))] dX3_readFormula_96 3 rfl (by decide) rfl ?_
    refine r_goto (tgt := 23) h dX3_readFormula_99 (by decide) ?_
    refine r_sub h [2, 3, 1, 0] rfl ?_
    exact hself23 z0 (iw (x3 + 1)) s3 rz0 (rI_iw _) hf
  · have hf := ite_nf hc1 hf
    refine r_iconst h dX3_readFormula_87 ?_
    exact r_ret2 hr dX3_readFormula_88 (Or.inl rfl) hf
set_option maxRecDepth 20000 in
theorem b_FR_readFormula_62 {l : Launch} {D : va_G} {cs : Nat → ClassId} {aS aV : Nat} {A : Nat → Prop} {K : KT} {ad : Nat → Nat} {n : Nat} {nl : Nat → Nat → Bool} {out : Int × SS} (h : w_Cl l rm_FR_readFormula D cs aS aV A cX3_readFormula 4 RX3 "readFormula" K) (hr : w_Rt 2 cX3_readFormula 0 0 (w_Po ad n nl out) K) (hw : w_WH n nl) (ht : 44 < n) {u1 : Nat} (pu1 : u1 < n) (pc1 : rC u1 = 2) (x2 : Int) (x3 : Int) (self23 : Int → Int → SS → OO) (hself23 : ∀ (x2 : Int) (x3 : Int) (τ : SS), rI x2 → rI x3 → self23 x2 x3 τ = some out → K ad n nl 0 0 23 [(0, .ref (ad 44)), (1, .ref (ad u1)), (2, .int (vI x2)), (3, .int (vI x3))] [] τ) (s0 : SS) (rx2 : rI x2) (rx3 : rI x3) (hf : j_FR_readFormula_62 u1 self23 x2 x3 s0 = some out) : K ad n nl 0 0 62 [(0, .ref (ad 44)), (1, .ref (ad u1)), (2, .int (vI x2)), (3, .int (vI x3))] [] s0 := by
  unfold j_FR_readFormula_62 at hf
  refine r_rS h (fun hs0 => ?_)
  refine r_iload_n h dX3_readFormula_62 rfl 2 rfl ?_
  refine r_iconst h dX3_readFormula_63 ?_
  refine r_icmp_ne (tgt := 75) h dX3_readFormula_64 (by decide) rx2 (rIc rfl) (fun hc1 => ?_) (fun hc1 => ?_)
  · have hf := ite_f hc1 hf
    refine r_aload_n h dX3_readFormula_75 rfl 0 rfl ?_
    refine r_aload_n h dX3_readFormula_76 rfl 1 rfl ?_
    refine r_iload_n h dX3_readFormula_77 rfl 2 rfl ?_
    obtain ⟨r2, s2, hq2, hf⟩ := ob_some hf
    refine r_callV1 h [.ref (ad u1), .int (vI x2)] dX3_readFormula_78 (fun hs => m_FR_readUnit hw ht pu1 pc1 rx2 hs hq2) ml_X3_47 cv_FR_readUnit rfl (co := 3) rfl (by decide) ht rC_44 ⟨rfl, rfl⟩ ⟨Nat.le_of_ble_eq_true rfl, Nat.le_of_ble_eq_true rfl⟩ ⟨Nat.le_of_ble_eq_true rfl, Nat.le_of_ble_eq_true rfl⟩ (Nat.le_of_ble_eq_true rfl) rfl (fun hr2 hs2 => ?_)
    refine r_sub h [0, 1, 3] rfl ?_
    exact b_FR_readFormula_81 h hr hw ht pu1 pc1 x3 r2 self23 hself23 s2 rx3 hr2 hf
  · have hf := ite_nf hc1 hf
    refine r_aload_n h dX3_readFormula_67 rfl 0 rfl ?_
    refine r_aload_n h dX3_readFormula_68 rfl 1 rfl ?_
    obtain ⟨r3, s3, hq3, hf⟩ := ob_some hf
    refine r_callV1 h [.ref (ad u1)] dX3_readFormula_69 (fun hs => m_FR_readBehindUnit hw ht pu1 pc1 hs hq3) ml_X3_43 cv_FR_readBehindUnit rfl (co := 3) rfl (by decide) ht rC_44 ⟨rfl, rfl⟩ ⟨Nat.le_of_ble_eq_true rfl, Nat.le_of_ble_eq_true rfl⟩ ⟨Nat.le_of_ble_eq_true rfl, Nat.le_of_ble_eq_true rfl⟩ (Nat.le_of_ble_eq_true rfl) rfl (fun hr3 hs3 => ?_)
    refine r_goto (tgt := 81) h dX3_readFormula_72 (by decide) ?_
    refine r_sub h [0, 1, 3] rfl ?_
    exact b_FR_readFormula_81 h hr hw ht pu1 pc1 x3 r3 self23 hself23 s3 rx3 hr3 hf
set_option maxRecDepth 20000 in
theorem b_FR_readFormula_23 {l : Launch} {D : va_G} {cs : Nat → ClassId} {aS aV : Nat} {A : Nat → Prop} {K : KT} {ad : Nat → Nat} {n : Nat} {nl : Nat → Nat → Bool} {out : Int × SS} (h : w_Cl l rm_FR_readFormula D cs aS aV A cX3_readFormula 4 RX3 "readFormula" K) (hr : w_Rt 2 cX3_readFormula 0 0 (w_Po ad n nl out) K) (hw : w_WH n nl) (ht : 44 < n) {u1 : Nat} (pu1 : u1 < n) (pc1 : rC u1 = 2) : ∀ (fu : Nat) (x2 : Int) (x3 : Int) (s0 : SS), rI x2 → rI x3 → l_FR_readFormula_23 u1 fu x2 x3 s0 = some out → K ad n nl 0 0 23 [(0, .ref (ad 44)), (1, .ref (ad u1)), (2, .int (vI x2)), (3, .int (vI x3))] [] s0 := by
  intro fu
  induction fu with
  | zero =>
    intro x2 x3 s0 rx2 rx3 hf
    rw [l_FR_readFormula_23] at hf
    cases hf
  | succ fu ih =>
    intro x2 x3 s0 rx2 rx3 hf
    rw [l_FR_readFormula_23] at hf
    refine r_rS h (fun hs0 => ?_)
    refine r_iload_n h dX3_readFormula_23 rfl 3 rfl ?_
    refine r_sipush h dX3_readFormula_24 (by decide) ?_
    refine r_icmp_gt (tgt := 102) h dX3_readFormula_27 (by decide) rx3 (rIc rfl) (fun hc1 => ?_) (fun hc1 => ?_)
    · have hf := ite_t hc1 hf
      refine r_iconst h dX3_readFormula_102 ?_
      exact r_ret2 hr dX3_readFormula_103 (Or.inl rfl) hf
    · have hf := ite_f hc1 hf
      refine r_iload_n h dX3_readFormula_30 rfl 2 rfl ?_
      refine r_iconst h dX3_readFormula_31 ?_
      refine r_icmp_ne (tgt := 62) h dX3_readFormula_32 (by decide) rx2 (rIc rfl) (fun hc2 => ?_) (fun hc2 => ?_)
      · have hf := ite_f hc2 hf
        exact b_FR_readFormula_62 h hr hw ht pu1 pc1 x2 x3 (l_FR_readFormula_23 u1 fu) ih s0 rx2 rx3 hf
      · have hf := ite_nf hc2 hf
        refine r_aload_n h dX3_readFormula_35 rfl 0 rfl ?_
        have hq3 := w_ref hw ht rC_44 (by decide) (k := 0) (by decide) rf_3_0
        refine g_X3_15 h dX3_readFormula_36 ht rC_44 hq3.1 ?_
        refine g_X3_34 h dX3_readFormula_39 hq3.2 rC_43 ?_
        refine r_bipush h dX3_readFormula_42 (by decide) ?_
        refine r_icmp_ne (tgt := 62) h dX3_readFormula_44 (by decide) (hs0.1 _ _) (rIc rfl) (fun hc4 => ?_) (fun hc4 => ?_)
        · have hf := ite_f hc4 hf
          exact b_FR_readFormula_62 h hr hw ht pu1 pc1 x2 x3 (l_FR_readFormula_23 u1 fu) ih s0 rx2 rx3 hf
        · have hf := ite_nf hc4 hf
          refine r_aload_n h dX3_readFormula_47 rfl 0 rfl ?_
          refine g_X3_28 h dX3_readFormula_48 ht rC_44 ?_
          refine r_if_ne (tgt := 62) h dX3_readFormula_51 (by decide) (hs0.1 _ _) (fun hc5 => ?_) (fun hc5 => ?_)
          · have hf := ite_f hc5 hf
            exact b_FR_readFormula_62 h hr hw ht pu1 pc1 x2 x3 (l_FR_readFormula_23 u1 fu) ih s0 rx2 rx3 hf
          · have hf := ite_nf hc5 hf
            refine r_aload_n h dX3_readFormula_54 rfl 0 rfl ?_
            refine r_aload_n h dX3_readFormula_55 rfl 1 rfl ?_
            refine r_iconst h dX3_readFormula_56 ?_
            obtain ⟨r6, s6, hq6, hf⟩ := ob_some hf
            refine r_callV0 h [.ref (ad u1), .int (vI 1)] dX3_readFormula_57 (fun hs => m_FR_settle hw ht pu1 pc1 (rIc rfl) hs hq6) ml_X3_39 cv_FR_settle rfl (co := 3) rfl (by decide) ht rC_44 ⟨rfl, rfl⟩ ⟨Nat.le_of_ble_eq_true rfl, Nat.le_of_ble_eq_true rfl⟩ ⟨Nat.le_of_ble_eq_true rfl, Nat.le_of_ble_eq_true rfl⟩ (Nat.le_of_ble_eq_true rfl) rfl (fun hr6 hs6 => ?_)
            refine r_iconst h dX3_readFormula_60 ?_
            exact r_ret2 hr dX3_readFormula_61 (Or.inr rfl) hf
set_option maxRecDepth 20000 in
theorem m_FR_readFormula {l : Launch} {D : va_G} {cs : Nat → ClassId} {aS aV : Nat} {A : Nat → Prop} {ad : Nat → Nat} {n : Nat} {nl : Nat → Nat → Bool} {out : Int × SS} (hw : w_WH n nl) (ht : 44 < n) {u1 : Nat} (pu1 : u1 < n) (pc1 : rC u1 = 2) {s0 : SS} (hs0 : rS s0) (hf : f_FR_readFormula u1 s0 = some out) : w_MC l D cs aS aV A yX3_readFormula cX3_readFormula 4 2 rm_FR_readFormula ad n nl [.ref (ad 44), .ref (ad u1)] s0 (w_Po ad n nl out) := by
  refine w_MC_of (by decide +kernel) (by decide) hs0 (Nat.le_of_ble_eq_true rfl) (fun K h hr => ?_)
  refine r_lv (lv' := [(0, .ref (ad 44)), (1, .ref (ad u1))]) rfl ?_
  unfold f_FR_readFormula at hf
  refine r_rS h (fun hs0 => ?_)
  refine r_aload_n h dX3_readFormula_0 rfl 1 rfl ?_
  obtain ⟨r1, s1, hq1, hf⟩ := ob_some hf
  refine r_callV0 h [] dX3_readFormula_1 (fun hs => m_Fo_clear hw pu1 pc1 hs hq1) ml_X3_19 cv_Fo_clear rfl (co := 2) rfl (by decide) pu1 pc1 ⟨rfl, rfl⟩ ⟨Nat.le_of_ble_eq_true rfl, Nat.le_of_ble_eq_true rfl⟩ ⟨Nat.le_of_ble_eq_true rfl, Nat.le_of_ble_eq_true rfl⟩ (Nat.le_of_ble_eq_true rfl) rfl (fun hr1 hs1 => ?_)
  refine r_aload_n h dX3_readFormula_4 rfl 0 rfl ?_
  refine r_iconst h dX3_readFormula_5 ?_
  refine p_X3_24 h dX3_readFormula_6 ht rC_44 (rIc rfl) ?_
  refine r_os hf (fun s2 hf => ?_)
  refine r_rS h (fun hs2 => ?_)
  refine r_aload_n h dX3_readFormula_9 rfl 0 rfl ?_
  refine r_iconst h dX3_readFormula_10 ?_
  refine p_X3_28 h dX3_readFormula_11 ht rC_44 (rIc rfl) ?_
  refine r_os hf (fun s3 hf => ?_)
  refine r_rS h (fun hs3 => ?_)
  refine r_aload_n h dX3_readFormula_14 rfl 0 rfl ?_
  refine r_iconst h dX3_readFormula_15 ?_
  refine p_X3_31 h dX3_readFormula_16 ht rC_44 (rIc rfl) ?_
  refine r_os hf (fun s4 hf => ?_)
  refine r_rS h (fun hs4 => ?_)
  refine r_iconst h dX3_readFormula_19 ?_
  refine r_istore_n h [(2, .int (vI 1)), (0, .ref (ad 44)), (1, .ref (ad u1))] dX3_readFormula_20 rfl (by decide) rfl ?_
  refine r_iconst h dX3_readFormula_21 ?_
  refine r_istore_n h [(3, .int (vI 0)), (2, .int (vI 1)), (0, .ref (ad 44)), (1, .ref (ad u1))] dX3_readFormula_22 rfl (by decide) rfl ?_
  refine r_sub h [2, 3, 1, 0] rfl ?_
  exact b_FR_readFormula_23 h hr hw ht pu1 pc1 FU 1 0 s4 (rIc rfl) (rIc rfl) hf
set_option maxRecDepth 20000 in
theorem m_Re_fail {l : Launch} {D : va_G} {cs : Nat → ClassId} {aS aV : Nat} {A : Nat → Prop} {ad : Nat → Nat} {n : Nat} {nl : Nat → Nat → Bool} {out : Int × SS} (hw : w_WH n nl) (ht : 42 < n) {a1 : Int} (ra1 : rI a1) {a2 : Int} (ra2 : rI a2) {s0 : SS} (hs0 : rS s0) (hf : f_Re_fail a1 a2 s0 = some out) : w_MC l D cs aS aV A yX5_fail cX5_fail 3 2 rm_Re_fail ad n nl [.ref (ad 42), .int (vI a1), .int (vI a2)] s0 (w_Po ad n nl out) := by
  refine w_MC_of (by decide +kernel) (by decide) hs0 (Nat.le_of_ble_eq_true rfl) (fun K h hr => ?_)
  refine r_lv (lv' := [(0, .ref (ad 42)), (1, .int (vI a1)), (2, .int (vI a2))]) rfl ?_
  unfold f_Re_fail at hf
  refine r_rS h (fun hs0 => ?_)
  refine r_aload_n h dX5_fail_0 rfl 0 rfl ?_
  refine r_iload_n h dX5_fail_1 rfl 1 rfl ?_
  refine p_X5_24 h dX5_fail_2 ht rC_42 ra1 ?_
  refine r_os hf (fun s1 hf => ?_)
  refine r_rS h (fun hs1 => ?_)
  refine r_aload_n h dX5_fail_5 rfl 0 rfl ?_
  refine r_iload_n h dX5_fail_6 rfl 2 rfl ?_
  refine p_X5_28 h dX5_fail_7 ht rC_42 ra2 ?_
  refine r_os hf (fun s2 hf => ?_)
  refine r_rS h (fun hs2 => ?_)
  refine r_iconst h dX5_fail_10 ?_
  exact r_ret2 hr dX5_fail_11 (Or.inl rfl) hf
set_option maxRecDepth 20000 in
theorem b_Re_refuse_17 {l : Launch} {D : va_G} {cs : Nat → ClassId} {aS aV : Nat} {A : Nat → Prop} {K : KT} {ad : Nat → Nat} {n : Nat} {nl : Nat → Nat → Bool} {out : Int × SS} (h : w_Cl l rm_Re_refuse D cs aS aV A cX5_refuse 1 RX5 "refuse" K) (hr : w_Rt 2 cX5_refuse 0 0 (w_Po ad n nl out) K) (hw : w_WH n nl) (ht : 42 < n) (z1 : Int) (s0 : SS) (rz1 : rI z1) (hf : j_Re_refuse_17 z1 s0 = some out) : K ad n nl 0 0 17 [(0, .ref (ad 42))] [.int (vI z1), .ref (ad 42)] s0 := by
  unfold j_Re_refuse_17 at hf
  refine r_rS h (fun hs0 => ?_)
  refine r_aload_n h dX5_refuse_17 rfl 0 rfl ?_
  have hq1 := w_ref hw ht rC_42 (by decide) (k := 0) (by decide) rf_5_0
  refine g_X5_9 h dX5_refuse_18 ht rC_42 hq1.1 ?_
  refine g_X5_138 h dX5_refuse_21 hq1.2 rC_43 ?_
  obtain ⟨r2, s2, hq2, hf⟩ := ob_some hf
  refine r_callV2 h [.int (vI z1), .int (vI (gi s0 43 4))] dX5_refuse_24 (fun hs => m_Re_fail hw ht rz1 (hs0.1 _ _) hs hq2) ml_X5_144 cv_Re_fail rfl (co := 5) rfl (by decide) ht rC_42 ⟨rfl, rfl⟩ ⟨Nat.le_of_ble_eq_true rfl, Nat.le_of_ble_eq_true rfl⟩ ⟨Nat.le_of_ble_eq_true rfl, Nat.le_of_ble_eq_true rfl⟩ (Nat.le_of_ble_eq_true rfl) rfl (fun hr2 hs2 => ?_)
  exact r_ret2 hr dX5_refuse_27 hr2 hf
set_option maxRecDepth 20000 in
theorem m_Re_refuse {l : Launch} {D : va_G} {cs : Nat → ClassId} {aS aV : Nat} {A : Nat → Prop} {ad : Nat → Nat} {n : Nat} {nl : Nat → Nat → Bool} {out : Int × SS} (hw : w_WH n nl) (ht : 42 < n) {s0 : SS} (hs0 : rS s0) (hf : f_Re_refuse s0 = some out) : w_MC l D cs aS aV A yX5_refuse cX5_refuse 1 2 rm_Re_refuse ad n nl [.ref (ad 42)] s0 (w_Po ad n nl out) := by
  refine w_MC_of (by decide +kernel) (by decide) hs0 (Nat.le_of_ble_eq_true rfl) (fun K h hr => ?_)
  refine r_lv (lv' := [(0, .ref (ad 42))]) rfl ?_
  unfold f_Re_refuse at hf
  refine r_rS h (fun hs0 => ?_)
  refine r_aload_n h dX5_refuse_0 rfl 0 rfl ?_
  refine r_aload_n h dX5_refuse_1 rfl 0 rfl ?_
  have hq1 := w_ref hw ht rC_42 (by decide) (k := 0) (by decide) rf_5_0
  refine g_X5_9 h dX5_refuse_2 ht rC_42 hq1.1 ?_
  refine g_X5_46 h dX5_refuse_5 hq1.2 rC_43 ?_
  refine r_iconst h dX5_refuse_8 ?_
  refine r_icmp_ne (tgt := 16) h dX5_refuse_9 (by decide) (hs0.1 _ _) (rIc rfl) (fun hc2 => ?_) (fun hc2 => ?_)
  · have hf := ite_f hc2 hf
    refine r_iconst h dX5_refuse_16 ?_
    exact b_Re_refuse_17 h hr hw ht 2 s0 (rIc rfl) hf
  · have hf := ite_nf hc2 hf
    refine r_iconst h dX5_refuse_12 ?_
    refine r_goto (tgt := 17) h dX5_refuse_13 (by decide) ?_
    exact b_Re_refuse_17 h hr hw ht 1 s0 (rIc rfl) hf
set_option maxRecDepth 20000 in
theorem b_Re_indexOf_3 {l : Launch} {D : va_G} {cs : Nat → ClassId} {aS aV : Nat} {A : Nat → Prop} {K : KT} {ad : Nat → Nat} {n : Nat} {nl : Nat → Nat → Bool} {out : Int × SS} (h : w_Cl l rm_Re_indexOf D cs aS aV A cX5_indexOf 5 RX5 "indexOf" K) (hr : w_Rt 1 cX5_indexOf 0 0 (w_Po ad n nl out) K) (hw : w_WH n nl) {u1 : Nat} (pu1 : u1 < n) (pc1 : rC u1 = 15) {y1 : Int} (ry1 : rI y1) {y2 : Int} (ry2 : rJ y2) : ∀ (fu : Nat) (x4 : Int) (s0 : SS), rI x4 → l_Re_indexOf_3 u1 y1 y2 fu x4 s0 = some out → K ad n nl 0 0 3 [(0, .ref (ad u1)), (1, .int (vI y1)), (2, .long (vJ y2)), (4, .int (vI x4))] [] s0 := by
  intro fu
  induction fu with
  | zero =>
    intro x4 s0 rx4 hf
    rw [l_Re_indexOf_3] at hf
    cases hf
  | succ fu ih =>
    intro x4 s0 rx4 hf
    rw [l_Re_indexOf_3] at hf
    refine r_rS h (fun hs0 => ?_)
    refine r_iload h dX5_indexOf_3 3 rfl ?_
    refine r_iload_n h dX5_indexOf_5 rfl 1 rfl ?_
    refine r_icmp_ge (tgt := 34) h dX5_indexOf_6 (by decide) rx4 ry1 (fun hc1 => ?_) (fun hc1 => ?_)
    · have hf := ite_t hc1 hf
      refine r_iconst h dX5_indexOf_34 ?_
      exact r_ret1 hr dX5_indexOf_35 (rIc rfl) hf
    · have hf := ite_f hc1 hf
      refine r_iload h dX5_indexOf_9 3 rfl ?_
      refine r_aload_n h dX5_indexOf_11 rfl 0 rfl ?_
      refine r_alen h dX5_indexOf_12 pu1 pc1 (Or.inr (Or.inr (Or.inl rfl))) rfl ?_
      refine r_icmp_ge (tgt := 34) h dX5_indexOf_13 (by decide) rx4 (rI_rN _) (fun hc2 => ?_) (fun hc2 => ?_)
      · have hf := ite_t hc2 hf
        refine r_iconst h dX5_indexOf_34 ?_
        exact r_ret1 hr dX5_indexOf_35 (rIc rfl) hf
      · have hf := ite_f hc2 hf
        refine r_aload_n h dX5_indexOf_16 rfl 0 rfl ?_
        refine r_iload h dX5_indexOf_17 3 rfl ?_
        obtain ⟨hi3, hf⟩ := oc_some hf
        refine r_lald h dX5_indexOf_19 pu1 pc1 rx4 rfl (j := (x4).toNat) rfl hi3 ?_
        refine r_lload_n h dX5_indexOf_20 rfl 2 rfl ?_
        refine r_lcmp h dX5_indexOf_21 (hs0.2 _ _) ry2 ?_
        refine r_if_ne (tgt := 28) h dX5_indexOf_22 (by decide) (rI_ycmp _ _) (fun hc4 => ?_) (fun hc4 => ?_)
        · have hf := ite_f hc4 hf
          refine r_iinc h [(4, .int (vI (iw (x4 + 1)))), (0, .ref (ad u1)), (1, .int (vI y1)), (2, .long (vJ y2))] dX5_indexOf_28 3 rfl (by decide) rfl ?_
          refine r_goto (tgt := 3) h dX5_indexOf_31 (by decide) ?_
          refine r_sub h [1, 2, 3, 0] rfl ?_
          exact ih (iw (x4 + 1)) s0 (rI_iw _) hf
        · have hf := ite_nf hc4 hf
          refine r_iload h dX5_indexOf_25 3 rfl ?_
          exact r_ret1 hr dX5_indexOf_27 rx4 hf
set_option maxRecDepth 20000 in
theorem m_Re_indexOf {l : Launch} {D : va_G} {cs : Nat → ClassId} {aS aV : Nat} {A : Nat → Prop} {ad : Nat → Nat} {n : Nat} {nl : Nat → Nat → Bool} {out : Int × SS} (hw : w_WH n nl) {u1 : Nat} (pu1 : u1 < n) (pc1 : rC u1 = 15) {a2 : Int} (ra2 : rI a2) {a3 : Int} (ra3 : rJ a3) {s0 : SS} (hs0 : rS s0) (hf : f_Re_indexOf u1 a2 a3 s0 = some out) : w_MC l D cs aS aV A yX5_indexOf cX5_indexOf 5 1 rm_Re_indexOf ad n nl [.ref (ad u1), .int (vI a2), .long (vJ a3)] s0 (w_Po ad n nl out) := by
  refine w_MC_of (by decide +kernel) (by decide) hs0 (Nat.le_of_ble_eq_true rfl) (fun K h hr => ?_)
  refine r_lv (lv' := [(0, .ref (ad u1)), (1, .int (vI a2)), (2, .long (vJ a3))]) rfl ?_
  unfold f_Re_indexOf at hf
  refine r_rS h (fun hs0 => ?_)
  refine r_iconst h dX5_indexOf_0 ?_
  refine r_istore h [(4, .int (vI 0)), (0, .ref (ad u1)), (1, .int (vI a2)), (2, .long (vJ a3))] dX5_indexOf_1 (by decide) rfl ?_
  refine r_sub h [1, 2, 3, 0] rfl ?_
  exact b_Re_indexOf_3 h hr hw pu1 pc1 ra2 ra3 FU 0 s0 (rIc rfl) hf
set_option maxRecDepth 20000 in
theorem b_Re_readNewName_65 {l : Launch} {D : va_G} {cs : Nat → ClassId} {aS aV : Nat} {A : Nat → Prop} {K : KT} {ad : Nat → Nat} {n : Nat} {nl : Nat → Nat → Bool} {out : Int × SS} (h : w_Cl l rm_Re_readNewName D cs aS aV A cX5_readNewName 3 RX5 "readNewName" K) (hr : w_Rt 2 cX5_readNewName 0 0 (w_Po ad n nl out) K) (hw : w_WH n nl) (ht : 42 < n) {u1 : Nat} (pu1 : u1 < n) (pc1 : rC u1 = 15) (s0 : SS) (hf : j_Re_readNewName_65 u1 s0 = some out) : K ad n nl 0 0 65 [(0, .ref (ad 42))] [] s0 := by
  unfold j_Re_readNewName_65 at hf
  refine r_rS h (fun hs0 => ?_)
  refine r_aload_n h dX5_readNewName_65 rfl 0 rfl ?_
  have hq1 := w_ref hw ht rC_42 (by decide) (k := 0) (by decide) rf_5_0
  refine g_X5_9 h dX5_readNewName_66 ht rC_42 hq1.1 ?_
  obtain ⟨r2, s2, hq2, hf⟩ := ob_some hf
  refine r_callV0 h [] dX5_readNewName_69 (fun hs => m_To_move hw hq1.2 hs hq2) ml_X5_87 cv_To_move rfl (co := 10) rfl (by decide) hq1.2 rC_43 ⟨rfl, rfl⟩ ⟨Nat.le_of_ble_eq_true rfl, Nat.le_of_ble_eq_true rfl⟩ ⟨Nat.le_of_ble_eq_true rfl, Nat.le_of_ble_eq_true rfl⟩ (Nat.le_of_ble_eq_true rfl) rfl (fun hr2 hs2 => ?_)
  refine r_iconst h dX5_readNewName_72 ?_
  exact r_ret2 hr dX5_readNewName_73 (Or.inr rfl) hf
set_option maxRecDepth 20000 in
theorem m_Re_readNewName {l : Launch} {D : va_G} {cs : Nat → ClassId} {aS aV : Nat} {A : Nat → Prop} {ad : Nat → Nat} {n : Nat} {nl : Nat → Nat → Bool} {out : Int × SS} (hw : w_WH n nl) (ht : 42 < n) {u1 : Nat} (pu1 : u1 < n) (pc1 : rC u1 = 15) {a2 : Int} (ra2 : rI a2) {s0 : SS} (hs0 : rS s0) (hf : f_Re_readNewName u1 a2 s0 = some out) : w_MC l D cs aS aV A yX5_readNewName cX5_readNewName 3 2 rm_Re_readNewName ad n nl [.ref (ad 42), .ref (ad u1), .int (vI a2)] s0 (w_Po ad n nl out) := by
  refine w_MC_of (by decide +kernel) (by decide) hs0 (Nat.le_of_ble_eq_true rfl) (fun K h hr => ?_)
  refine r_lv (lv' := [(0, .ref (ad 42)), (1, .ref (ad u1)), (2, .int (vI a2))]) rfl ?_
  unfold f_Re_readNewName at hf
  refine r_rS h (fun hs0 => ?_)
  refine r_aload_n h dX5_readNewName_0 rfl 0 rfl ?_
  have hq1 := w_ref hw ht rC_42 (by decide) (k := 0) (by decide) rf_5_0
  refine g_X5_9 h dX5_readNewName_1 ht rC_42 hq1.1 ?_
  refine g_X5_46 h dX5_readNewName_4 hq1.2 rC_43 ?_
  refine r_iconst h dX5_readNewName_7 ?_
  refine r_icmp_eq (tgt := 16) h dX5_readNewName_8 (by decide) (hs0.1 _ _) (rIc rfl) (fun hc2 => ?_) (fun hc2 => ?_)
  · have hf := ite_t hc2 hf
    refine r_aload_n h dX5_readNewName_16 rfl 1 rfl ?_
    refine r_iload_n h dX5_readNewName_17 rfl 2 rfl ?_
    refine r_aload_n h dX5_readNewName_18 rfl 0 rfl ?_
    have hq3 := w_ref hw ht rC_42 (by decide) (k := 0) (by decide) rf_5_0
    refine g_X5_9 h dX5_readNewName_19 ht rC_42 hq3.1 ?_
    refine g_X5_182 h dX5_readNewName_22 hq3.2 rC_43 ?_
    obtain ⟨r4, s4, hq4, hf⟩ := ob_some hf
    refine r_callS1 h [.ref (ad u1), .int (vI a2), .long (vJ (gj s0 43 6))] dX5_readNewName_25 (fun hs => m_Re_indexOf hw pu1 pc1 ra2 (hs0.2 _ _) hs hq4) ml_X5_186 cv_Re_indexOf rfl ⟨rfl, rfl⟩ ⟨Nat.le_of_ble_eq_true rfl, Nat.le_of_ble_eq_true rfl⟩ ⟨Nat.le_of_ble_eq_true rfl, Nat.le_of_ble_eq_true rfl⟩ (Nat.le_of_ble_eq_true rfl) rfl (fun hr4 hs4 => ?_)
    refine r_iconst h dX5_readNewName_28 ?_
    refine r_icmp_eq (tgt := 45) h dX5_readNewName_29 (by decide) hr4 (rIc rfl) (fun hc5 => ?_) (fun hc5 => ?_)
    · have hf := ite_t hc5 hf
      refine r_iload_n h dX5_readNewName_45 rfl 2 rfl ?_
      refine r_if_lt (tgt := 65) h dX5_readNewName_46 (by decide) ra2 (fun hc6 => ?_) (fun hc6 => ?_)
      · have hf := ite_t hc6 hf
        refine r_sub h [0] rfl ?_
        exact b_Re_readNewName_65 h hr hw ht pu1 pc1 s4 hf
      · have hf := ite_f hc6 hf
        refine r_iload_n h dX5_readNewName_49 rfl 2 rfl ?_
        refine r_aload_n h dX5_readNewName_50 rfl 1 rfl ?_
        refine r_alen h dX5_readNewName_51 pu1 pc1 (Or.inr (Or.inr (Or.inl rfl))) rfl ?_
        refine r_icmp_ge (tgt := 65) h dX5_readNewName_52 (by decide) ra2 (rI_rN _) (fun hc7 => ?_) (fun hc7 => ?_)
        · have hf := ite_t hc7 hf
          refine r_sub h [0] rfl ?_
          exact b_Re_readNewName_65 h hr hw ht pu1 pc1 s4 hf
        · have hf := ite_f hc7 hf
          refine r_aload_n h dX5_readNewName_55 rfl 1 rfl ?_
          refine r_iload_n h dX5_readNewName_56 rfl 2 rfl ?_
          refine r_aload_n h dX5_readNewName_57 rfl 0 rfl ?_
          have hq8 := w_ref hw ht rC_42 (by decide) (k := 0) (by decide) rf_5_0
          refine g_X5_9 h dX5_readNewName_58 ht rC_42 hq8.1 ?_
          refine g_X5_182 h dX5_readNewName_61 hq8.2 rC_43 ?_
          obtain ⟨hi9, hf⟩ := oc_some hf
          refine r_last h dX5_readNewName_64 pu1 pc1 ra2 rfl (j := (a2).toNat) rfl hi9 (hs4.2 _ _) ?_
          refine r_os hf (fun s10 hf => ?_)
          refine r_rS h (fun hs10 => ?_)
          refine r_sub h [0] rfl ?_
          exact b_Re_readNewName_65 h hr hw ht pu1 pc1 s10 hf
    · have hf := ite_f hc5 hf
      refine r_aload_n h dX5_readNewName_32 rfl 0 rfl ?_
      refine r_iconst h dX5_readNewName_33 ?_
      refine r_aload_n h dX5_readNewName_34 rfl 0 rfl ?_
      have hq11 := w_ref hw ht rC_42 (by decide) (k := 0) (by decide) rf_5_0
      refine g_X5_9 h dX5_readNewName_35 ht rC_42 hq11.1 ?_
      refine g_X5_138 h dX5_readNewName_38 hq11.2 rC_43 ?_
      obtain ⟨r12, s12, hq12, hf⟩ := ob_some hf
      refine r_callV2 h [.int (vI 3), .int (vI (gi s4 43 4))] dX5_readNewName_41 (fun hs => m_Re_fail hw ht (rIc rfl) (hs4.1 _ _) hs hq12) ml_X5_144 cv_Re_fail rfl (co := 5) rfl (by decide) ht rC_42 ⟨rfl, rfl⟩ ⟨Nat.le_of_ble_eq_true rfl, Nat.le_of_ble_eq_true rfl⟩ ⟨Nat.le_of_ble_eq_true rfl, Nat.le_of_ble_eq_true rfl⟩ (Nat.le_of_ble_eq_true rfl) rfl (fun hr12 hs12 => ?_)
      exact r_ret2 hr dX5_readNewName_44 hr12 hf
  · have hf := ite_f hc2 hf
    refine r_aload_n h dX5_readNewName_11 rfl 0 rfl ?_
    obtain ⟨r13, s13, hq13, hf⟩ := ob_some hf
    refine r_callV2 h [] dX5_readNewName_12 (fun hs => m_Re_refuse hw ht hs hq13) ml_X5_76 cv_Re_refuse rfl (co := 5) rfl (by decide) ht rC_42 ⟨rfl, rfl⟩ ⟨Nat.le_of_ble_eq_true rfl, Nat.le_of_ble_eq_true rfl⟩ ⟨Nat.le_of_ble_eq_true rfl, Nat.le_of_ble_eq_true rfl⟩ (Nat.le_of_ble_eq_true rfl) rfl (fun hr13 hs13 => ?_)
    exact r_ret2 hr dX5_readNewName_15 hr13 hf
set_option maxRecDepth 20000 in
theorem m_Re_expect {l : Launch} {D : va_G} {cs : Nat → ClassId} {aS aV : Nat} {A : Nat → Prop} {ad : Nat → Nat} {n : Nat} {nl : Nat → Nat → Bool} {out : Int × SS} (hw : w_WH n nl) (ht : 42 < n) {a1 : Int} (ra1 : rI a1) {s0 : SS} (hs0 : rS s0) (hf : f_Re_expect a1 s0 = some out) : w_MC l D cs aS aV A yX5_expect cX5_expect 2 2 rm_Re_expect ad n nl [.ref (ad 42), .int (vI a1)] s0 (w_Po ad n nl out) := by
  refine w_MC_of (by decide +kernel) (by decide) hs0 (Nat.le_of_ble_eq_true rfl) (fun K h hr => ?_)
  refine r_lv (lv' := [(0, .ref (ad 42)), (1, .int (vI a1))]) rfl ?_
  unfold f_Re_expect at hf
  refine r_rS h (fun hs0 => ?_)
  refine r_aload_n h dX5_expect_0 rfl 0 rfl ?_
  have hq1 := w_ref hw ht rC_42 (by decide) (k := 0) (by decide) rf_5_0
  refine g_X5_9 h dX5_expect_1 ht rC_42 hq1.1 ?_
  refine g_X5_46 h dX5_expect_4 hq1.2 rC_43 ?_
  refine r_iload_n h dX5_expect_7 rfl 1 rfl ?_
  refine r_icmp_eq (tgt := 16) h dX5_expect_8 (by decide) (hs0.1 _ _) ra1 (fun hc2 => ?_) (fun hc2 => ?_)
  · have hf := ite_t hc2 hf
    refine r_aload_n h dX5_expect_16 rfl 0 rfl ?_
    have hq3 := w_ref hw ht rC_42 (by decide) (k := 0) (by decide) rf_5_0
    refine g_X5_9 h dX5_expect_17 ht rC_42 hq3.1 ?_
    obtain ⟨r4, s4, hq4, hf⟩ := ob_some hf
    refine r_callV0 h [] dX5_expect_20 (fun hs => m_To_move hw hq3.2 hs hq4) ml_X5_87 cv_To_move rfl (co := 10) rfl (by decide) hq3.2 rC_43 ⟨rfl, rfl⟩ ⟨Nat.le_of_ble_eq_true rfl, Nat.le_of_ble_eq_true rfl⟩ ⟨Nat.le_of_ble_eq_true rfl, Nat.le_of_ble_eq_true rfl⟩ (Nat.le_of_ble_eq_true rfl) rfl (fun hr4 hs4 => ?_)
    refine r_iconst h dX5_expect_23 ?_
    exact r_ret2 hr dX5_expect_24 (Or.inr rfl) hf
  · have hf := ite_f hc2 hf
    refine r_aload_n h dX5_expect_11 rfl 0 rfl ?_
    obtain ⟨r5, s5, hq5, hf⟩ := ob_some hf
    refine r_callV2 h [] dX5_expect_12 (fun hs => m_Re_refuse hw ht hs hq5) ml_X5_76 cv_Re_refuse rfl (co := 5) rfl (by decide) ht rC_42 ⟨rfl, rfl⟩ ⟨Nat.le_of_ble_eq_true rfl, Nat.le_of_ble_eq_true rfl⟩ ⟨Nat.le_of_ble_eq_true rfl, Nat.le_of_ble_eq_true rfl⟩ (Nat.le_of_ble_eq_true rfl) rfl (fun hr5 hs5 => ?_)
    exact r_ret2 hr dX5_expect_15 hr5 hf
set_option maxRecDepth 20000 in
theorem b_Re_readNumber_38 {l : Launch} {D : va_G} {cs : Nat → ClassId} {aS aV : Nat} {A : Nat → Prop} {K : KT} {ad : Nat → Nat} {n : Nat} {nl : Nat → Nat → Bool} {out : Int × SS} (h : w_Cl l rm_Re_readNumber D cs aS aV A cX5_readNumber 3 RX5 "readNumber" K) (hr : w_Rt 2 cX5_readNumber 0 0 (w_Po ad n nl out) K) (hw : w_WH n nl) (ht : 42 < n) (s0 : SS) (hf : j_Re_readNumber_38 s0 = some out) : K ad n nl 0 0 38 [(0, .ref (ad 42))] [] s0 := by
  unfold j_Re_readNumber_38 at hf
  refine r_rS h (fun hs0 => ?_)
  refine r_aload_n h dX5_readNumber_38 rfl 0 rfl ?_
  refine r_iconst h dX5_readNumber_39 ?_
  refine r_aload_n h dX5_readNumber_40 rfl 0 rfl ?_
  have hq1 := w_ref hw ht rC_42 (by decide) (k := 0) (by decide) rf_5_0
  refine g_X5_9 h dX5_readNumber_41 ht rC_42 hq1.1 ?_
  refine g_X5_138 h dX5_readNumber_44 hq1.2 rC_43 ?_
  obtain ⟨r2, s2, hq2, hf⟩ := ob_some hf
  refine r_callV2 h [.int (vI 4), .int (vI (gi s0 43 4))] dX5_readNumber_47 (fun hs => m_Re_fail hw ht (rIc rfl) (hs0.1 _ _) hs hq2) ml_X5_144 cv_Re_fail rfl (co := 5) rfl (by decide) ht rC_42 ⟨rfl, rfl⟩ ⟨Nat.le_of_ble_eq_true rfl, Nat.le_of_ble_eq_true rfl⟩ ⟨Nat.le_of_ble_eq_true rfl, Nat.le_of_ble_eq_true rfl⟩ (Nat.le_of_ble_eq_true rfl) rfl (fun hr2 hs2 => ?_)
  exact r_ret2 hr dX5_readNumber_50 hr2 hf
set_option maxRecDepth 20000 in
theorem m_Re_readNumber {l : Launch} {D : va_G} {cs : Nat → ClassId} {aS aV : Nat} {A : Nat → Prop} {ad : Nat → Nat} {n : Nat} {nl : Nat → Nat → Bool} {out : Int × SS} (hw : w_WH n nl) (ht : 42 < n) {a1 : Int} (ra1 : rI a1) {a2 : Int} (ra2 : rI a2) {s0 : SS} (hs0 : rS s0) (hf : f_Re_readNumber a1 a2 s0 = some out) : w_MC l D cs aS aV A yX5_readNumber cX5_readNumber 3 2 rm_Re_readNumber ad n nl [.ref (ad 42), .int (vI a1), .int (vI a2)] s0 (w_Po ad n nl out) := by
  refine w_MC_of (by decide +kernel) (by decide) hs0 (Nat.le_of_ble_eq_true rfl) (fun K h hr => ?_)
  refine r_lv (lv' := [(0, .ref (ad 42)), (1, .int (vI a1)), (2, .int (vI a2))]) rfl ?_
  unfold f_Re_readNumber at hf
  refine r_rS h (fun hs0 => ?_)
  refine r_aload_n h dX5_readNumber_0 rfl 0 rfl ?_
  have hq1 := w_ref hw ht rC_42 (by decide) (k := 0) (by decide) rf_5_0
  refine g_X5_9 h dX5_readNumber_1 ht rC_42 hq1.1 ?_
  refine g_X5_46 h dX5_readNumber_4 hq1.2 rC_43 ?_
  refine r_iconst h dX5_readNumber_7 ?_
  refine r_icmp_eq (tgt := 16) h dX5_readNumber_8 (by decide) (hs0.1 _ _) (rIc rfl) (fun hc2 => ?_) (fun hc2 => ?_)
  · have hf := ite_t hc2 hf
    refine r_aload_n h dX5_readNumber_16 rfl 0 rfl ?_
    have hq3 := w_ref hw ht rC_42 (by decide) (k := 0) (by decide) rf_5_0
    refine g_X5_9 h dX5_readNumber_17 ht rC_42 hq3.1 ?_
    refine g_X5_141 h dX5_readNumber_20 hq3.2 rC_43 ?_
    refine r_iload_n h dX5_readNumber_23 rfl 1 rfl ?_
    refine r_icmp_lt (tgt := 38) h dX5_readNumber_24 (by decide) (hs0.1 _ _) ra1 (fun hc4 => ?_) (fun hc4 => ?_)
    · have hf := ite_t hc4 hf
      refine r_sub h [0] rfl ?_
      exact b_Re_readNumber_38 h hr hw ht s0 hf
    · have hf := ite_f hc4 hf
      refine r_aload_n h dX5_readNumber_27 rfl 0 rfl ?_
      have hq5 := w_ref hw ht rC_42 (by decide) (k := 0) (by decide) rf_5_0
      refine g_X5_9 h dX5_readNumber_28 ht rC_42 hq5.1 ?_
      refine g_X5_141 h dX5_readNumber_31 hq5.2 rC_43 ?_
      refine r_iload_n h dX5_readNumber_34 rfl 2 rfl ?_
      refine r_icmp_le (tgt := 51) h dX5_readNumber_35 (by decide) (hs0.1 _ _) ra2 (fun hc6 => ?_) (fun hc6 => ?_)
      · have hf := ite_t hc6 hf
        refine r_aload_n h dX5_readNumber_51 rfl 0 rfl ?_
        refine r_aload_n h dX5_readNumber_52 rfl 0 rfl ?_
        have hq7 := w_ref hw ht rC_42 (by decide) (k := 0) (by decide) rf_5_0
        refine g_X5_9 h dX5_readNumber_53 ht rC_42 hq7.1 ?_
        refine g_X5_141 h dX5_readNumber_56 hq7.2 rC_43 ?_
        refine p_X5_109 h dX5_readNumber_59 ht rC_42 (hs0.1 _ _) ?_
        refine r_os hf (fun s8 hf => ?_)
        refine r_rS h (fun hs8 => ?_)
        refine r_aload_n h dX5_readNumber_62 rfl 0 rfl ?_
        have hq9 := w_ref hw ht rC_42 (by decide) (k := 0) (by decide) rf_5_0
        refine g_X5_9 h dX5_readNumber_63 ht rC_42 hq9.1 ?_
        obtain ⟨r10, s10, hq10, hf⟩ := ob_some hf
        refine r_callV0 h [] dX5_readNumber_66 (fun hs => m_To_move hw hq9.2 hs hq10) ml_X5_87 cv_To_move rfl (co := 10) rfl (by decide) hq9.2 rC_43 ⟨rfl, rfl⟩ ⟨Nat.le_of_ble_eq_true rfl, Nat.le_of_ble_eq_true rfl⟩ ⟨Nat.le_of_ble_eq_true rfl, Nat.le_of_ble_eq_true rfl⟩ (Nat.le_of_ble_eq_true rfl) rfl (fun hr10 hs10 => ?_)
        refine r_iconst h dX5_readNumber_69 ?_
        exact r_ret2 hr dX5_readNumber_70 (Or.inr rfl) hf
      · have hf := ite_f hc6 hf
        refine r_sub h [0] rfl ?_
        exact b_Re_readNumber_38 h hr hw ht s0 hf
  · have hf := ite_f hc2 hf
    refine r_aload_n h dX5_readNumber_11 rfl 0 rfl ?_
    obtain ⟨r11, s11, hq11, hf⟩ := ob_some hf
    refine r_callV2 h [] dX5_readNumber_12 (fun hs => m_Re_refuse hw ht hs hq11) ml_X5_76 cv_Re_refuse rfl (co := 5) rfl (by decide) ht rC_42 ⟨rfl, rfl⟩ ⟨Nat.le_of_ble_eq_true rfl, Nat.le_of_ble_eq_true rfl⟩ ⟨Nat.le_of_ble_eq_true rfl, Nat.le_of_ble_eq_true rfl⟩ (Nat.le_of_ble_eq_true rfl) rfl (fun hr11 hs11 => ?_)
    exact r_ret2 hr dX5_readNumber_15 hr11 hf
set_option maxRecDepth 20000 in
theorem m_Re_readNumberBehind {l : Launch} {D : va_G} {cs : Nat → ClassId} {aS aV : Nat} {A : Nat → Prop} {ad : Nat → Nat} {n : Nat} {nl : Nat → Nat → Bool} {out : Int × SS} (hw : w_WH n nl) (ht : 42 < n) {a1 : Int} (ra1 : rI a1) {a2 : Int} (ra2 : rI a2) {a3 : Int} (ra3 : rI a3) {s0 : SS} (hs0 : rS s0) (hf : f_Re_readNumberBehind a1 a2 a3 s0 = some out) : w_MC l D cs aS aV A yX5_readNumberBehind cX5_readNumberBehind 4 2 rm_Re_readNumberBehind ad n nl [.ref (ad 42), .int (vI a1), .int (vI a2), .int (vI a3)] s0 (w_Po ad n nl out) := by
  refine w_MC_of (by decide +kernel) (by decide) hs0 (Nat.le_of_ble_eq_true rfl) (fun K h hr => ?_)
  refine r_lv (lv' := [(0, .ref (ad 42)), (1, .int (vI a1)), (2, .int (vI a2)), (3, .int (vI a3))]) rfl ?_
  unfold f_Re_readNumberBehind at hf
  refine r_rS h (fun hs0 => ?_)
  refine r_aload_n h dX5_readNumberBehind_0 rfl 0 rfl ?_
  refine r_iload_n h dX5_readNumberBehind_1 rfl 1 rfl ?_
  obtain ⟨r1, s1, hq1, hf⟩ := ob_some hf
  refine r_callV2 h [.int (vI a1)] dX5_readNumberBehind_2 (fun hs => m_Re_expect hw ht ra1 hs hq1) ml_X5_80 cv_Re_expect rfl (co := 5) rfl (by decide) ht rC_42 ⟨rfl, rfl⟩ ⟨Nat.le_of_ble_eq_true rfl, Nat.le_of_ble_eq_true rfl⟩ ⟨Nat.le_of_ble_eq_true rfl, Nat.le_of_ble_eq_true rfl⟩ (Nat.le_of_ble_eq_true rfl) rfl (fun hr1 hs1 => ?_)
  refine r_if_eq (tgt := 21) h dX5_readNumberBehind_5 (by decide) (rI_b hr1) (fun hc2 => ?_) (fun hc2 => ?_)
  · have hf := ite_t hc2 hf
    refine r_iconst h dX5_readNumberBehind_21 ?_
    exact r_ret2 hr dX5_readNumberBehind_22 (Or.inl rfl) hf
  · have hf := ite_f hc2 hf
    refine r_aload_n h dX5_readNumberBehind_8 rfl 0 rfl ?_
    refine r_iload_n h dX5_readNumberBehind_9 rfl 2 rfl ?_
    refine r_iload_n h dX5_readNumberBehind_10 rfl 3 rfl ?_
    obtain ⟨r3, s3, hq3, hf⟩ := ob_some hf
    refine r_callV2 h [.int (vI a2), .int (vI a3)] dX5_readNumberBehind_11 (fun hs => m_Re_readNumber hw ht ra2 ra3 hs hq3) ml_X5_125 cv_Re_readNumber rfl (co := 5) rfl (by decide) ht rC_42 ⟨rfl, rfl⟩ ⟨Nat.le_of_ble_eq_true rfl, Nat.le_of_ble_eq_true rfl⟩ ⟨Nat.le_of_ble_eq_true rfl, Nat.le_of_ble_eq_true rfl⟩ (Nat.le_of_ble_eq_true rfl) rfl (fun hr3 hs3 => ?_)
    refine r_if_eq (tgt := 21) h dX5_readNumberBehind_14 (by decide) (rI_b hr3) (fun hc4 => ?_) (fun hc4 => ?_)
    · have hf := ite_t hc4 hf
      refine r_iconst h dX5_readNumberBehind_21 ?_
      exact r_ret2 hr dX5_readNumberBehind_22 (Or.inl rfl) hf
    · have hf := ite_f hc4 hf
      refine r_iconst h dX5_readNumberBehind_17 ?_
      refine r_goto (tgt := 22) h dX5_readNumberBehind_18 (by decide) ?_
      exact r_ret2 hr dX5_readNumberBehind_22 (Or.inr rfl) hf
set_option maxRecDepth 20000 in
theorem b_Re_readPlace_15 {l : Launch} {D : va_G} {cs : Nat → ClassId} {aS aV : Nat} {A : Nat → Prop} {K : KT} {ad : Nat → Nat} {n : Nat} {nl : Nat → Nat → Bool} {out : Int × SS} (h : w_Cl l rm_Re_readPlace D cs aS aV A cX5_readPlace 3 RX5 "readPlace" K) (hr : w_Rt 2 cX5_readPlace 0 0 (w_Po ad n nl out) K) (hw : w_WH n nl) (ht : 42 < n) {u1 : Nat} (pu1 : u1 < n) (pc1 : rC u1 = 4) (s0 : SS) (hf : j_Re_readPlace_15 u1 s0 = some out) : K ad n nl 0 0 15 [(0, .ref (ad 42))] [] s0 := by
  unfold j_Re_readPlace_15 at hf
  refine r_rS h (fun hs0 => ?_)
  refine r_aload_n h dX5_readPlace_15 rfl 0 rfl ?_
  obtain ⟨r1, s1, hq1, hf⟩ := ob_some hf
  refine r_callV2 h [] dX5_readPlace_16 (fun hs => m_Re_refuse hw ht hs hq1) ml_X5_76 cv_Re_refuse rfl (co := 5) rfl (by decide) ht rC_42 ⟨rfl, rfl⟩ ⟨Nat.le_of_ble_eq_true rfl, Nat.le_of_ble_eq_true rfl⟩ ⟨Nat.le_of_ble_eq_true rfl, Nat.le_of_ble_eq_true rfl⟩ (Nat.le_of_ble_eq_true rfl) rfl (fun hr1 hs1 => ?_)
  exact r_ret2 hr dX5_readPlace_19 hr1 hf
set_option maxRecDepth 20000 in
theorem b_Re_readPlace_131 {l : Launch} {D : va_G} {cs : Nat → ClassId} {aS aV : Nat} {A : Nat → Prop} {K : KT} {ad : Nat → Nat} {n : Nat} {nl : Nat → Nat → Bool} {out : Int × SS} (h : w_Cl l rm_Re_readPlace D cs aS aV A cX5_readPlace 3 RX5 "readPlace" K) (hr : w_Rt 2 cX5_readPlace 0 0 (w_Po ad n nl out) K) (hw : w_WH n nl) (ht : 42 < n) {u1 : Nat} (pu1 : u1 < n) (pc1 : rC u1 = 4) (s0 : SS) (hf : j_Re_readPlace_131 u1 s0 = some out) : K ad n nl 0 0 131 [(1, .ref (ad u1))] [] s0 := by
  unfold j_Re_readPlace_131 at hf
  refine r_rS h (fun hs0 => ?_)
  refine r_aload_n h dX5_readPlace_131 rfl 0 rfl ?_
  refine r_dup h dX5_readPlace_132 rfl ?_
  refine g_X5_84 h dX5_readPlace_133 pu1 pc1 ?_
  refine r_iconst h dX5_readPlace_136 ?_
  refine r_iadd h dX5_readPlace_137 ?_
  refine p_X5_84 h dX5_readPlace_138 pu1 pc1 (rI_iw _) ?_
  refine r_os hf (fun s1 hf => ?_)
  refine r_rS h (fun hs1 => ?_)
  refine r_iconst h dX5_readPlace_141 ?_
  exact r_ret2 hr dX5_readPlace_142 (Or.inr rfl) hf
set_option maxRecDepth 20000 in
theorem b_Re_readPlace_93 {l : Launch} {D : va_G} {cs : Nat → ClassId} {aS aV : Nat} {A : Nat → Prop} {K : KT} {ad : Nat → Nat} {n : Nat} {nl : Nat → Nat → Bool} {out : Int × SS} (h : w_Cl l rm_Re_readPlace D cs aS aV A cX5_readPlace 3 RX5 "readPlace" K) (hr : w_Rt 2 cX5_readPlace 0 0 (w_Po ad n nl out) K) (hw : w_WH n nl) (ht : 42 < n) {u1 : Nat} (pu1 : u1 < n) (pc1 : rC u1 = 4) (x2 : Int) (s0 : SS) (rx2 : rI x2) (hf : j_Re_readPlace_93 u1 x2 s0 = some out) : K ad n nl 0 0 93 [(0, .ref (ad 42)), (1, .ref (ad u1)), (2, .int (vI x2))] [] s0 := by
  unfold j_Re_readPlace_93 at hf
  refine r_rS h (fun hs0 => ?_)
  refine r_aload_n h dX5_readPlace_93 rfl 0 rfl ?_
  have hq1 := w_ref hw ht rC_42 (by decide) (k := 0) (by decide) rf_5_0
  refine g_X5_9 h dX5_readPlace_94 ht rC_42 hq1.1 ?_
  refine g_X5_46 h dX5_readPlace_97 hq1.2 rC_43 ?_
  refine r_sipush h dX5_readPlace_100 (by decide) ?_
  refine r_icmp_ne (tgt := 131) h dX5_readPlace_103 (by decide) (hs0.1 _ _) (rIc rfl) (fun hc2 => ?_) (fun hc2 => ?_)
  · have hf := ite_f hc2 hf
    refine r_sub h [1] rfl ?_
    exact b_Re_readPlace_131 h hr hw ht pu1 pc1 s0 hf
  · have hf := ite_nf hc2 hf
    refine r_aload_n h dX5_readPlace_106 rfl 0 rfl ?_
    refine r_sipush h dX5_readPlace_107 (by decide) ?_
    refine r_iconst h dX5_readPlace_110 ?_
    refine r_bipush h dX5_readPlace_111 (by decide) ?_
    obtain ⟨r3, s3, hq3, hf⟩ := ob_some hf
    refine r_callV2 h [.int (vI 258), .int (vI 0), .int (vI 9)] dX5_readPlace_113 (fun hs => m_Re_readNumberBehind hw ht (rIc rfl) (rIc rfl) (rIc rfl) hs hq3) ml_X5_105 cv_Re_readNumberBehind rfl (co := 5) rfl (by decide) ht rC_42 ⟨rfl, rfl⟩ ⟨Nat.le_of_ble_eq_true rfl, Nat.le_of_ble_eq_true rfl⟩ ⟨Nat.le_of_ble_eq_true rfl, Nat.le_of_ble_eq_true rfl⟩ (Nat.le_of_ble_eq_true rfl) rfl (fun hr3 hs3 => ?_)
    refine r_if_ne (tgt := 121) h dX5_readPlace_116 (by decide) (rI_b hr3) (fun hc4 => ?_) (fun hc4 => ?_)
    · have hf := ite_f hc4 hf
      refine r_aload_n h dX5_readPlace_121 rfl 1 rfl ?_
      have hq5c := rf_4_3 _ pc1
      have hq5 := w_ref hw pu1 pc1 (by decide) (k := 3) (by decide) hq5c.1
      refine g_X5_102 h dX5_readPlace_122 pu1 pc1 hq5.1 ?_
      refine r_iload_n h dX5_readPlace_125 rfl 2 rfl ?_
      refine r_aload_n h dX5_readPlace_126 rfl 0 rfl ?_
      refine g_X5_109 h dX5_readPlace_127 ht rC_42 ?_
      obtain ⟨hi6, hf⟩ := oc_some hf
      refine r_iast h dX5_readPlace_130 hq5.2 hq5c.2.1 rx2 (N := 8) (by rw [hq5c.2.2]; rfl) (j := (x2).toNat) rfl hi6 (hs3.1 _ _) ?_
      refine r_os hf (fun s7 hf => ?_)
      refine r_rS h (fun hs7 => ?_)
      refine r_sub h [1] rfl ?_
      exact b_Re_readPlace_131 h hr hw ht pu1 pc1 s7 hf
    · have hf := ite_nf hc4 hf
      refine r_iconst h dX5_readPlace_119 ?_
      exact r_ret2 hr dX5_readPlace_120 (Or.inl rfl) hf
set_option maxRecDepth 20000 in
theorem m_Re_readPlace {l : Launch} {D : va_G} {cs : Nat → ClassId} {aS aV : Nat} {A : Nat → Prop} {ad : Nat → Nat} {n : Nat} {nl : Nat → Nat → Bool} {out : Int × SS} (hw : w_WH n nl) (ht : 42 < n) {u1 : Nat} (pu1 : u1 < n) (pc1 : rC u1 = 4) {s0 : SS} (hs0 : rS s0) (hf : f_Re_readPlace u1 s0 = some out) : w_MC l D cs aS aV A yX5_readPlace cX5_readPlace 3 2 rm_Re_readPlace ad n nl [.ref (ad 42), .ref (ad u1)] s0 (w_Po ad n nl out) := by
  refine w_MC_of (by decide +kernel) (by decide) hs0 (Nat.le_of_ble_eq_true rfl) (fun K h hr => ?_)
  refine r_lv (lv' := [(0, .ref (ad 42)), (1, .ref (ad u1))]) rfl ?_
  unfold f_Re_readPlace at hf
  refine r_rS h (fun hs0 => ?_)
  refine r_aload_n h dX5_readPlace_0 rfl 1 rfl ?_
  refine g_X5_84 h dX5_readPlace_1 pu1 pc1 ?_
  refine r_ol hf (hs0.1 _ _) (fun x1_ rx1_ hf => ?_)
  refine r_istore_n h [(2, .int (vI x1_)), (0, .ref (ad 42)), (1, .ref (ad u1))] dX5_readPlace_4 rfl (by decide) rfl ?_
  refine r_iload_n h dX5_readPlace_5 rfl 0 rfl ?_
  refine r_if_lt (tgt := 15) h dX5_readPlace_6 (by decide) rx1_ (fun hc2 => ?_) (fun hc2 => ?_)
  · have hf := ite_t hc2 hf
    refine r_sub h [1] rfl ?_
    exact b_Re_readPlace_15 h hr hw ht pu1 pc1 s0 hf
  · have hf := ite_f hc2 hf
    refine r_iload_n h dX5_readPlace_9 rfl 0 rfl ?_
    refine r_bipush h dX5_readPlace_10 (by decide) ?_
    refine r_icmp_lt (tgt := 20) h dX5_readPlace_12 (by decide) rx1_ (rIc rfl) (fun hc3 => ?_) (fun hc3 => ?_)
    · have hf := ite_t hc3 hf
      refine r_aload_n h dX5_readPlace_20 rfl 1 rfl ?_
      have hq4 := w_ref hw ht rC_42 (by decide) (k := 0) (by decide) rf_5_0
      refine g_X5_9 h dX5_readPlace_21 ht rC_42 hq4.1 ?_
      obtain ⟨r5, s5, hq5, hf⟩ := ob_some hf
      refine r_callV0 h [] dX5_readPlace_24 (fun hs => m_To_move hw hq4.2 hs hq5) ml_X5_87 cv_To_move rfl (co := 10) rfl (by decide) hq4.2 rC_43 ⟨rfl, rfl⟩ ⟨Nat.le_of_ble_eq_true rfl, Nat.le_of_ble_eq_true rfl⟩ ⟨Nat.le_of_ble_eq_true rfl, Nat.le_of_ble_eq_true rfl⟩ (Nat.le_of_ble_eq_true rfl) rfl (fun hr5 hs5 => ?_)
      refine r_aload_n h dX5_readPlace_27 rfl 1 rfl ?_
      refine r_aload_n h dX5_readPlace_28 rfl 2 rfl ?_
      have hq6c := rf_4_1 _ pc1
      have hq6 := w_ref hw pu1 pc1 (by decide) (k := 1) (by decide) hq6c.1
      refine g_X5_90 h dX5_readPlace_29 pu1 pc1 hq6.1 ?_
      refine r_iload_n h dX5_readPlace_32 rfl 0 rfl ?_
      obtain ⟨r7, s7, hq7, hf⟩ := ob_some hf
      refine r_callV2 h [.ref (ad (u1 + 1)), .int (vI x1_)] dX5_readPlace_33 (fun hs => m_Re_readNewName hw ht hq6.2 hq6c.2.1 rx1_ hs hq7) ml_X5_94 cv_Re_readNewName rfl (co := 5) rfl (by decide) ht rC_42 ⟨rfl, rfl⟩ ⟨Nat.le_of_ble_eq_true rfl, Nat.le_of_ble_eq_true rfl⟩ ⟨Nat.le_of_ble_eq_true rfl, Nat.le_of_ble_eq_true rfl⟩ (Nat.le_of_ble_eq_true rfl) rfl (fun hr7 hs7 => ?_)
      refine r_if_ne (tgt := 41) h dX5_readPlace_36 (by decide) (rI_b hr7) (fun hc8 => ?_) (fun hc8 => ?_)
      · have hf := ite_f hc8 hf
        refine r_aload_n h dX5_readPlace_41 rfl 2 rfl ?_
        have hq9c := rf_4_2 _ pc1
        have hq9 := w_ref hw pu1 pc1 (by decide) (k := 2) (by decide) hq9c.1
        refine g_X5_98 h dX5_readPlace_42 pu1 pc1 hq9.1 ?_
        refine r_iload_n h dX5_readPlace_45 rfl 0 rfl ?_
        refine r_iconst h dX5_readPlace_46 ?_
        obtain ⟨hi10, hf⟩ := oc_some hf
        refine r_iast h dX5_readPlace_47 hq9.2 hq9c.2.1 rx1_ (N := 8) (by rw [hq9c.2.2]; rfl) (j := (x1_).toNat) rfl hi10 (rIc rfl) ?_
        refine r_os hf (fun s11 hf => ?_)
        refine r_rS h (fun hs11 => ?_)
        refine r_aload_n h dX5_readPlace_48 rfl 2 rfl ?_
        have hq12c := rf_4_3 _ pc1
        have hq12 := w_ref hw pu1 pc1 (by decide) (k := 3) (by decide) hq12c.1
        refine g_X5_102 h dX5_readPlace_49 pu1 pc1 hq12.1 ?_
        refine r_iload_n h dX5_readPlace_52 rfl 0 rfl ?_
        refine r_iconst h dX5_readPlace_53 ?_
        obtain ⟨hi13, hf⟩ := oc_some hf
        refine r_iast h dX5_readPlace_54 hq12.2 hq12c.2.1 rx1_ (N := 8) (by rw [hq12c.2.2]; rfl) (j := (x1_).toNat) rfl hi13 (rIc rfl) ?_
        refine r_os hf (fun s14 hf => ?_)
        refine r_rS h (fun hs14 => ?_)
        refine r_aload_n h dX5_readPlace_55 rfl 1 rfl ?_
        have hq15 := w_ref hw ht rC_42 (by decide) (k := 0) (by decide) rf_5_0
        refine g_X5_9 h dX5_readPlace_56 ht rC_42 hq15.1 ?_
        refine g_X5_46 h dX5_readPlace_59 hq15.2 rC_43 ?_
        refine r_sipush h dX5_readPlace_62 (by decide) ?_
        refine r_icmp_ne (tgt := 93) h dX5_readPlace_65 (by decide) (hs14.1 _ _) (rIc rfl) (fun hc16 => ?_) (fun hc16 => ?_)
        · have hf := ite_f hc16 hf
          refine r_sub h [1, 2, 0] rfl ?_
          exact b_Re_readPlace_93 h hr hw ht pu1 pc1 x1_ s14 rx1_ hf
        · have hf := ite_nf hc16 hf
          refine r_aload_n h dX5_readPlace_68 rfl 1 rfl ?_
          refine r_sipush h dX5_readPlace_69 (by decide) ?_
          refine r_iconst h dX5_readPlace_72 ?_
          refine r_bipush h dX5_readPlace_73 (by decide) ?_
          obtain ⟨r17, s17, hq17, hf⟩ := ob_some hf
          refine r_callV2 h [.int (vI 257), .int (vI 0), .int (vI 9)] dX5_readPlace_75 (fun hs => m_Re_readNumberBehind hw ht (rIc rfl) (rIc rfl) (rIc rfl) hs hq17) ml_X5_105 cv_Re_readNumberBehind rfl (co := 5) rfl (by decide) ht rC_42 ⟨rfl, rfl⟩ ⟨Nat.le_of_ble_eq_true rfl, Nat.le_of_ble_eq_true rfl⟩ ⟨Nat.le_of_ble_eq_true rfl, Nat.le_of_ble_eq_true rfl⟩ (Nat.le_of_ble_eq_true rfl) rfl (fun hr17 hs17 => ?_)
          refine r_if_ne (tgt := 83) h dX5_readPlace_78 (by decide) (rI_b hr17) (fun hc18 => ?_) (fun hc18 => ?_)
          · have hf := ite_f hc18 hf
            refine r_aload_n h dX5_readPlace_83 rfl 2 rfl ?_
            have hq19c := rf_4_2 _ pc1
            have hq19 := w_ref hw pu1 pc1 (by decide) (k := 2) (by decide) hq19c.1
            refine g_X5_98 h dX5_readPlace_84 pu1 pc1 hq19.1 ?_
            refine r_iload_n h dX5_readPlace_87 rfl 0 rfl ?_
            refine r_aload_n h dX5_readPlace_88 rfl 1 rfl ?_
            refine g_X5_109 h dX5_readPlace_89 ht rC_42 ?_
            obtain ⟨hi20, hf⟩ := oc_some hf
            refine r_iast h dX5_readPlace_92 hq19.2 hq19c.2.1 rx1_ (N := 8) (by rw [hq19c.2.2]; rfl) (j := (x1_).toNat) rfl hi20 (hs17.1 _ _) ?_
            refine r_os hf (fun s21 hf => ?_)
            refine r_rS h (fun hs21 => ?_)
            refine r_sub h [1, 2, 0] rfl ?_
            exact b_Re_readPlace_93 h hr hw ht pu1 pc1 x1_ s21 rx1_ hf
          · have hf := ite_nf hc18 hf
            refine r_iconst h dX5_readPlace_81 ?_
            exact r_ret2 hr dX5_readPlace_82 (Or.inl rfl) hf
      · have hf := ite_nf hc8 hf
        refine r_iconst h dX5_readPlace_39 ?_
        exact r_ret2 hr dX5_readPlace_40 (Or.inl rfl) hf
    · have hf := ite_f hc3 hf
      refine r_sub h [1] rfl ?_
      exact b_Re_readPlace_15 h hr hw ht pu1 pc1 s0 hf
set_option maxRecDepth 20000 in
theorem m_Re_readPlaceName {l : Launch} {D : va_G} {cs : Nat → ClassId} {aS aV : Nat} {A : Nat → Prop} {ad : Nat → Nat} {n : Nat} {nl : Nat → Nat → Bool} {out : Int × SS} (hw : w_WH n nl) (ht : 42 < n) {u1 : Nat} (pu1 : u1 < n) (pc1 : rC u1 = 4) {a2 : Int} (ra2 : rI a2) {s0 : SS} (hs0 : rS s0) (hf : f_Re_readPlaceName u1 a2 s0 = some out) : w_MC l D cs aS aV A yX5_readPlaceName cX5_readPlaceName 4 2 rm_Re_readPlaceName ad n nl [.ref (ad 42), .ref (ad u1), .int (vI a2)] s0 (w_Po ad n nl out) := by
  refine w_MC_of (by decide +kernel) (by decide) hs0 (Nat.le_of_ble_eq_true rfl) (fun K h hr => ?_)
  refine r_lv (lv' := [(0, .ref (ad 42)), (1, .ref (ad u1)), (2, .int (vI a2))]) rfl ?_
  unfold f_Re_readPlaceName at hf
  refine r_rS h (fun hs0 => ?_)
  refine r_aload_n h dX5_readPlaceName_0 rfl 0 rfl ?_
  have hq1 := w_ref hw ht rC_42 (by decide) (k := 0) (by decide) rf_5_0
  refine g_X5_9 h dX5_readPlaceName_1 ht rC_42 hq1.1 ?_
  refine g_X5_46 h dX5_readPlaceName_4 hq1.2 rC_43 ?_
  refine r_iconst h dX5_readPlaceName_7 ?_
  refine r_icmp_eq (tgt := 16) h dX5_readPlaceName_8 (by decide) (hs0.1 _ _) (rIc rfl) (fun hc2 => ?_) (fun hc2 => ?_)
  · have hf := ite_t hc2 hf
    refine r_aload_n h dX5_readPlaceName_16 rfl 1 rfl ?_
    have hq3c := rf_4_1 _ pc1
    have hq3 := w_ref hw pu1 pc1 (by decide) (k := 1) (by decide) hq3c.1
    refine g_X5_90 h dX5_readPlaceName_17 pu1 pc1 hq3.1 ?_
    refine r_aload_n h dX5_readPlaceName_20 rfl 1 rfl ?_
    refine g_X5_84 h dX5_readPlaceName_21 pu1 pc1 ?_
    refine r_aload_n h dX5_readPlaceName_24 rfl 0 rfl ?_
    have hq4 := w_ref hw ht rC_42 (by decide) (k := 0) (by decide) rf_5_0
    refine g_X5_9 h dX5_readPlaceName_25 ht rC_42 hq4.1 ?_
    refine g_X5_182 h dX5_readPlaceName_28 hq4.2 rC_43 ?_
    obtain ⟨r5, s5, hq5, hf⟩ := ob_some hf
    refine r_callS1 h [.ref (ad (u1 + 1)), .int (vI (gi s0 u1 0)), .long (vJ (gj s0 43 6))] dX5_readPlaceName_31 (fun hs => m_Re_indexOf hw hq3.2 hq3c.2.1 (hs0.1 _ _) (hs0.2 _ _) hs hq5) ml_X5_186 cv_Re_indexOf rfl ⟨rfl, rfl⟩ ⟨Nat.le_of_ble_eq_true rfl, Nat.le_of_ble_eq_true rfl⟩ ⟨Nat.le_of_ble_eq_true rfl, Nat.le_of_ble_eq_true rfl⟩ (Nat.le_of_ble_eq_true rfl) rfl (fun hr5 hs5 => ?_)
    refine r_istore_n h [(3, .int (vI r5)), (0, .ref (ad 42)), (1, .ref (ad u1)), (2, .int (vI a2))] dX5_readPlaceName_34 rfl (by decide) rfl ?_
    refine r_iload_n h dX5_readPlaceName_35 rfl 0 rfl ?_
    refine r_iconst h dX5_readPlaceName_36 ?_
    refine r_icmp_ne (tgt := 53) h dX5_readPlaceName_37 (by decide) hr5 (rIc rfl) (fun hc6 => ?_) (fun hc6 => ?_)
    · have hf := ite_f hc6 hf
      refine r_iload_n h dX5_readPlaceName_53 rfl 0 rfl ?_
      refine r_iload_n h dX5_readPlaceName_54 rfl 3 rfl ?_
      refine r_icmp_ne (tgt := 71) h dX5_readPlaceName_55 (by decide) hr5 ra2 (fun hc7 => ?_) (fun hc7 => ?_)
      · have hf := ite_f hc7 hf
        refine r_aload_n h dX5_readPlaceName_71 rfl 1 rfl ?_
        refine r_iload_n h dX5_readPlaceName_72 rfl 0 rfl ?_
        refine p_X5_109 h dX5_readPlaceName_73 ht rC_42 hr5 ?_
        refine r_os hf (fun s8 hf => ?_)
        refine r_rS h (fun hs8 => ?_)
        refine r_aload_n h dX5_readPlaceName_76 rfl 1 rfl ?_
        have hq9 := w_ref hw ht rC_42 (by decide) (k := 0) (by decide) rf_5_0
        refine g_X5_9 h dX5_readPlaceName_77 ht rC_42 hq9.1 ?_
        obtain ⟨r10, s10, hq10, hf⟩ := ob_some hf
        refine r_callV0 h [] dX5_readPlaceName_80 (fun hs => m_To_move hw hq9.2 hs hq10) ml_X5_87 cv_To_move rfl (co := 10) rfl (by decide) hq9.2 rC_43 ⟨rfl, rfl⟩ ⟨Nat.le_of_ble_eq_true rfl, Nat.le_of_ble_eq_true rfl⟩ ⟨Nat.le_of_ble_eq_true rfl, Nat.le_of_ble_eq_true rfl⟩ (Nat.le_of_ble_eq_true rfl) rfl (fun hr10 hs10 => ?_)
        refine r_iconst h dX5_readPlaceName_83 ?_
        exact r_ret2 hr dX5_readPlaceName_84 (Or.inr rfl) hf
      · have hf := ite_nf hc7 hf
        refine r_aload_n h dX5_readPlaceName_58 rfl 1 rfl ?_
        refine r_iconst h dX5_readPlaceName_59 ?_
        refine r_aload_n h dX5_readPlaceName_60 rfl 1 rfl ?_
        have hq11 := w_ref hw ht rC_42 (by decide) (k := 0) (by decide) rf_5_0
        refine g_X5_9 h dX5_readPlaceName_61 ht rC_42 hq11.1 ?_
        refine g_X5_138 h dX5_readPlaceName_64 hq11.2 rC_43 ?_
        obtain ⟨r12, s12, hq12, hf⟩ := ob_some hf
        refine r_callV2 h [.int (vI 3), .int (vI (gi s5 43 4))] dX5_readPlaceName_67 (fun hs => m_Re_fail hw ht (rIc rfl) (hs5.1 _ _) hs hq12) ml_X5_144 cv_Re_fail rfl (co := 5) rfl (by decide) ht rC_42 ⟨rfl, rfl⟩ ⟨Nat.le_of_ble_eq_true rfl, Nat.le_of_ble_eq_true rfl⟩ ⟨Nat.le_of_ble_eq_true rfl, Nat.le_of_ble_eq_true rfl⟩ (Nat.le_of_ble_eq_true rfl) rfl (fun hr12 hs12 => ?_)
        exact r_ret2 hr dX5_readPlaceName_70 hr12 hf
    · have hf := ite_nf hc6 hf
      refine r_aload_n h dX5_readPlaceName_40 rfl 1 rfl ?_
      refine r_iconst h dX5_readPlaceName_41 ?_
      refine r_aload_n h dX5_readPlaceName_42 rfl 1 rfl ?_
      have hq13 := w_ref hw ht rC_42 (by decide) (k := 0) (by decide) rf_5_0
      refine g_X5_9 h dX5_readPlaceName_43 ht rC_42 hq13.1 ?_
      refine g_X5_138 h dX5_readPlaceName_46 hq13.2 rC_43 ?_
      obtain ⟨r14, s14, hq14, hf⟩ := ob_some hf
      refine r_callV2 h [.int (vI 5), .int (vI (gi s5 43 4))] dX5_readPlaceName_49 (fun hs => m_Re_fail hw ht (rIc rfl) (hs5.1 _ _) hs hq14) ml_X5_144 cv_Re_fail rfl (co := 5) rfl (by decide) ht rC_42 ⟨rfl, rfl⟩ ⟨Nat.le_of_ble_eq_true rfl, Nat.le_of_ble_eq_true rfl⟩ ⟨Nat.le_of_ble_eq_true rfl, Nat.le_of_ble_eq_true rfl⟩ (Nat.le_of_ble_eq_true rfl) rfl (fun hr14 hs14 => ?_)
      exact r_ret2 hr dX5_readPlaceName_52 hr14 hf
  · have hf := ite_f hc2 hf
    refine r_aload_n h dX5_readPlaceName_11 rfl 0 rfl ?_
    obtain ⟨r15, s15, hq15, hf⟩ := ob_some hf
    refine r_callV2 h [] dX5_readPlaceName_12 (fun hs => m_Re_refuse hw ht hs hq15) ml_X5_76 cv_Re_refuse rfl (co := 5) rfl (by decide) ht rC_42 ⟨rfl, rfl⟩ ⟨Nat.le_of_ble_eq_true rfl, Nat.le_of_ble_eq_true rfl⟩ ⟨Nat.le_of_ble_eq_true rfl, Nat.le_of_ble_eq_true rfl⟩ (Nat.le_of_ble_eq_true rfl) rfl (fun hr15 hs15 => ?_)
    exact r_ret2 hr dX5_readPlaceName_15 hr15 hf
set_option maxRecDepth 20000 in
theorem b_Re_readSight_95 {l : Launch} {D : va_G} {cs : Nat → ClassId} {aS aV : Nat} {A : Nat → Prop} {K : KT} {ad : Nat → Nat} {n : Nat} {nl : Nat → Nat → Bool} {out : Int × SS} (h : w_Cl l rm_Re_readSight D cs aS aV A cX5_readSight 3 RX5 "readSight" K) (hr : w_Rt 2 cX5_readSight 0 0 (w_Po ad n nl out) K) (hw : w_WH n nl) (ht : 42 < n) (z1 : Int) (s0 : SS) (rz1 : rI z1) (hf : j_Re_readSight_95 z1 s0 = some out) : K ad n nl 0 0 95 [(0, .ref (ad 42))] [.int (vI z1), .ref (ad 42)] s0 := by
  unfold j_Re_readSight_95 at hf
  refine r_rS h (fun hs0 => ?_)
  refine p_X5_109 h dX5_readSight_95 ht rC_42 rz1 ?_
  refine r_os hf (fun s1 hf => ?_)
  refine r_rS h (fun hs1 => ?_)
  refine r_aload_n h dX5_readSight_98 rfl 0 rfl ?_
  have hq2 := w_ref hw ht rC_42 (by decide) (k := 0) (by decide) rf_5_0
  refine g_X5_9 h dX5_readSight_99 ht rC_42 hq2.1 ?_
  obtain ⟨r3, s3, hq3, hf⟩ := ob_some hf
  refine r_callV0 h [] dX5_readSight_102 (fun hs => m_To_move hw hq2.2 hs hq3) ml_X5_87 cv_To_move rfl (co := 10) rfl (by decide) hq2.2 rC_43 ⟨rfl, rfl⟩ ⟨Nat.le_of_ble_eq_true rfl, Nat.le_of_ble_eq_true rfl⟩ ⟨Nat.le_of_ble_eq_true rfl, Nat.le_of_ble_eq_true rfl⟩ (Nat.le_of_ble_eq_true rfl) rfl (fun hr3 hs3 => ?_)
  refine r_iconst h dX5_readSight_105 ?_
  exact r_ret2 hr dX5_readSight_106 (Or.inr rfl) hf
set_option maxRecDepth 20000 in
theorem b_Re_readSight_37 {l : Launch} {D : va_G} {cs : Nat → ClassId} {aS aV : Nat} {A : Nat → Prop} {K : KT} {ad : Nat → Nat} {n : Nat} {nl : Nat → Nat → Bool} {out : Int × SS} (h : w_Cl l rm_Re_readSight D cs aS aV A cX5_readSight 3 RX5 "readSight" K) (hr : w_Rt 2 cX5_readSight 0 0 (w_Po ad n nl out) K) (hw : w_WH n nl) (ht : 42 < n) (x1 : Int) (x2 : Int) (s0 : SS) (rx1 : rI x1) (rx2 : rI x2) (hf : j_Re_readSight_37 x1 x2 s0 = some out) : K ad n nl 0 0 37 [(0, .ref (ad 42)), (1, .int (vI x1)), (2, .int (vI x2))] [] s0 := by
  unfold j_Re_readSight_37 at hf
  refine r_rS h (fun hs0 => ?_)
  refine r_aload_n h dX5_readSight_37 rfl 0 rfl ?_
  have hq1 := w_ref hw ht rC_42 (by decide) (k := 0) (by decide) rf_5_0
  refine g_X5_9 h dX5_readSight_38 ht rC_42 hq1.1 ?_
  refine g_X5_46 h dX5_readSight_41 hq1.2 rC_43 ?_
  refine r_iconst h dX5_readSight_44 ?_
  refine r_icmp_eq (tgt := 53) h dX5_readSight_45 (by decide) (hs0.1 _ _) (rIc rfl) (fun hc2 => ?_) (fun hc2 => ?_)
  · have hf := ite_t hc2 hf
    refine r_aload_n h dX5_readSight_53 rfl 0 rfl ?_
    have hq3 := w_ref hw ht rC_42 (by decide) (k := 0) (by decide) rf_5_0
    refine g_X5_9 h dX5_readSight_54 ht rC_42 hq3.1 ?_
    refine g_X5_141 h dX5_readSight_57 hq3.2 rC_43 ?_
    refine r_bipush h dX5_readSight_60 (by decide) ?_
    refine r_icmp_le (tgt := 72) h dX5_readSight_62 (by decide) (hs0.1 _ _) (rIc rfl) (fun hc4 => ?_) (fun hc4 => ?_)
    · have hf := ite_t hc4 hf
      refine r_aload_n h dX5_readSight_72 rfl 0 rfl ?_
      refine r_iload_n h dX5_readSight_73 rfl 2 rfl ?_
      refine r_if_eq (tgt := 88) h dX5_readSight_74 (by decide) rx2 (fun hc5 => ?_) (fun hc5 => ?_)
      · have hf := ite_t hc5 hf
        refine r_aload_n h dX5_readSight_88 rfl 0 rfl ?_
        have hq6 := w_ref hw ht rC_42 (by decide) (k := 0) (by decide) rf_5_0
        refine g_X5_9 h dX5_readSight_89 ht rC_42 hq6.1 ?_
        refine g_X5_141 h dX5_readSight_92 hq6.2 rC_43 ?_
        refine r_sub h [0] rfl ?_
        exact b_Re_readSight_95 h hr hw ht (gi s0 43 5) s0 (hs0.1 _ _) hf
      · have hf := ite_f hc5 hf
        refine r_aload_n h dX5_readSight_77 rfl 0 rfl ?_
        have hq7 := w_ref hw ht rC_42 (by decide) (k := 0) (by decide) rf_5_0
        refine g_X5_9 h dX5_readSight_78 ht rC_42 hq7.1 ?_
        refine g_X5_141 h dX5_readSight_81 hq7.2 rC_43 ?_
        refine r_ineg h dX5_readSight_84 ?_
        refine r_goto (tgt := 95) h dX5_readSight_85 (by decide) ?_
        refine r_sub h [0] rfl ?_
        exact b_Re_readSight_95 h hr hw ht (iw (-(gi s0 43 5))) s0 (rI_iw _) hf
    · have hf := ite_f hc4 hf
      refine r_aload_n h dX5_readSight_65 rfl 0 rfl ?_
      refine r_iconst h dX5_readSight_66 ?_
      refine r_iload_n h dX5_readSight_67 rfl 1 rfl ?_
      obtain ⟨r8, s8, hq8, hf⟩ := ob_some hf
      refine r_callV2 h [.int (vI 4), .int (vI x1)] dX5_readSight_68 (fun hs => m_Re_fail hw ht (rIc rfl) rx1 hs hq8) ml_X5_144 cv_Re_fail rfl (co := 5) rfl (by decide) ht rC_42 ⟨rfl, rfl⟩ ⟨Nat.le_of_ble_eq_true rfl, Nat.le_of_ble_eq_true rfl⟩ ⟨Nat.le_of_ble_eq_true rfl, Nat.le_of_ble_eq_true rfl⟩ (Nat.le_of_ble_eq_true rfl) rfl (fun hr8 hs8 => ?_)
      exact r_ret2 hr dX5_readSight_71 hr8 hf
  · have hf := ite_f hc2 hf
    refine r_aload_n h dX5_readSight_48 rfl 0 rfl ?_
    obtain ⟨r9, s9, hq9, hf⟩ := ob_some hf
    refine r_callV2 h [] dX5_readSight_49 (fun hs => m_Re_refuse hw ht hs hq9) ml_X5_76 cv_Re_refuse rfl (co := 5) rfl (by decide) ht rC_42 ⟨rfl, rfl⟩ ⟨Nat.le_of_ble_eq_true rfl, Nat.le_of_ble_eq_true rfl⟩ ⟨Nat.le_of_ble_eq_true rfl, Nat.le_of_ble_eq_true rfl⟩ (Nat.le_of_ble_eq_true rfl) rfl (fun hr9 hs9 => ?_)
    exact r_ret2 hr dX5_readSight_52 hr9 hf
set_option maxRecDepth 20000 in
theorem b_Re_readSight_25 {l : Launch} {D : va_G} {cs : Nat → ClassId} {aS aV : Nat} {A : Nat → Prop} {K : KT} {ad : Nat → Nat} {n : Nat} {nl : Nat → Nat → Bool} {out : Int × SS} (h : w_Cl l rm_Re_readSight D cs aS aV A cX5_readSight 3 RX5 "readSight" K) (hr : w_Rt 2 cX5_readSight 0 0 (w_Po ad n nl out) K) (hw : w_WH n nl) (ht : 42 < n) (x1 : Int) (z0 : Int) (s0 : SS) (rx1 : rI x1) (rz0 : rI z0) (hf : j_Re_readSight_25 x1 z0 s0 = some out) : K ad n nl 0 0 25 [(0, .ref (ad 42)), (1, .int (vI x1))] [.int (vI z0)] s0 := by
  unfold j_Re_readSight_25 at hf
  refine r_rS h (fun hs0 => ?_)
  refine r_istore_n h [(2, .int (vI z0)), (0, .ref (ad 42)), (1, .int (vI x1))] dX5_readSight_25 rfl (by decide) rfl ?_
  refine r_iload_n h dX5_readSight_26 rfl 0 rfl ?_
  refine r_if_eq (tgt := 37) h dX5_readSight_27 (by decide) rz0 (fun hc1 => ?_) (fun hc1 => ?_)
  · have hf := ite_t hc1 hf
    refine r_sub h [1, 2, 0] rfl ?_
    exact b_Re_readSight_37 h hr hw ht x1 z0 s0 rx1 rz0 hf
  · have hf := ite_f hc1 hf
    refine r_aload_n h dX5_readSight_30 rfl 1 rfl ?_
    have hq2 := w_ref hw ht rC_42 (by decide) (k := 0) (by decide) rf_5_0
    refine g_X5_9 h dX5_readSight_31 ht rC_42 hq2.1 ?_
    obtain ⟨r3, s3, hq3, hf⟩ := ob_some hf
    refine r_callV0 h [] dX5_readSight_34 (fun hs => m_To_move hw hq2.2 hs hq3) ml_X5_87 cv_To_move rfl (co := 10) rfl (by decide) hq2.2 rC_43 ⟨rfl, rfl⟩ ⟨Nat.le_of_ble_eq_true rfl, Nat.le_of_ble_eq_true rfl⟩ ⟨Nat.le_of_ble_eq_true rfl, Nat.le_of_ble_eq_true rfl⟩ (Nat.le_of_ble_eq_true rfl) rfl (fun hr3 hs3 => ?_)
    refine r_sub h [1, 2, 0] rfl ?_
    exact b_Re_readSight_37 h hr hw ht x1 z0 s3 rx1 rz0 hf
set_option maxRecDepth 20000 in
theorem m_Re_readSight {l : Launch} {D : va_G} {cs : Nat → ClassId} {aS aV : Nat} {A : Nat → Prop} {ad : Nat → Nat} {n : Nat} {nl : Nat → Nat → Bool} {out : Int × SS} (hw : w_WH n nl) (ht : 42 < n) {s0 : SS} (hs0 : rS s0) (hf : f_Re_readSight s0 = some out) : w_MC l D cs aS aV A yX5_readSight cX5_readSight 3 2 rm_Re_readSight ad n nl [.ref (ad 42)] s0 (w_Po ad n nl out) := by
  refine w_MC_of (by decide +kernel) (by decide) hs0 (Nat.le_of_ble_eq_true rfl) (fun K h hr => ?_)
  refine r_lv (lv' := [(0, .ref (ad 42))]) rfl ?_
  unfold f_Re_readSight at hf
  refine r_rS h (fun hs0 => ?_)
  refine r_aload_n h dX5_readSight_0 rfl 0 rfl ?_
  have hq1 := w_ref hw ht rC_42 (by decide) (k := 0) (by decide) rf_5_0
  refine g_X5_9 h dX5_readSight_1 ht rC_42 hq1.1 ?_
  refine g_X5_138 h dX5_readSight_4 hq1.2 rC_43 ?_
  refine r_ol hf (hs0.1 _ _) (fun x2_ rx2_ hf => ?_)
  refine r_istore_n h [(1, .int (vI x2_)), (0, .ref (ad 42))] dX5_readSight_7 rfl (by decide) rfl ?_
  refine r_aload_n h dX5_readSight_8 rfl 1 rfl ?_
  have hq3 := w_ref hw ht rC_42 (by decide) (k := 0) (by decide) rf_5_0
  refine g_X5_9 h dX5_readSight_9 ht rC_42 hq3.1 ?_
  refine g_X5_46 h dX5_readSight_12 hq3.2 rC_43 ?_
  refine r_bipush h dX5_readSight_15 (by decide) ?_
  refine r_icmp_ne (tgt := 24) h dX5_readSight_17 (by decide) (hs0.1 _ _) (rIc rfl) (fun hc4 => ?_) (fun hc4 => ?_)
  · have hf := ite_f hc4 hf
    refine r_iconst h dX5_readSight_24 ?_
    refine r_sub h [1, 0] rfl ?_
    exact b_Re_readSight_25 h hr hw ht x2_ 0 s0 rx2_ (rIc rfl) hf
  · have hf := ite_nf hc4 hf
    refine r_iconst h dX5_readSight_20 ?_
    refine r_goto (tgt := 25) h dX5_readSight_21 (by decide) ?_
    refine r_sub h [1, 0] rfl ?_
    exact b_Re_readSight_25 h hr hw ht x2_ 1 s0 rx2_ (rIc rfl) hf
set_option maxRecDepth 20000 in
theorem b_Re_readWay_15 {l : Launch} {D : va_G} {cs : Nat → ClassId} {aS aV : Nat} {A : Nat → Prop} {K : KT} {ad : Nat → Nat} {n : Nat} {nl : Nat → Nat → Bool} {out : Int × SS} (h : w_Cl l rm_Re_readWay D cs aS aV A cX5_readWay 3 RX5 "readWay" K) (hr : w_Rt 2 cX5_readWay 0 0 (w_Po ad n nl out) K) (hw : w_WH n nl) (ht : 42 < n) {u1 : Nat} (pu1 : u1 < n) (pc1 : rC u1 = 4) (s0 : SS) (hf : j_Re_readWay_15 u1 s0 = some out) : K ad n nl 0 0 15 [(0, .ref (ad 42))] [] s0 := by
  unfold j_Re_readWay_15 at hf
  refine r_rS h (fun hs0 => ?_)
  refine r_aload_n h dX5_readWay_15 rfl 0 rfl ?_
  obtain ⟨r1, s1, hq1, hf⟩ := ob_some hf
  refine r_callV2 h [] dX5_readWay_16 (fun hs => m_Re_refuse hw ht hs hq1) ml_X5_76 cv_Re_refuse rfl (co := 5) rfl (by decide) ht rC_42 ⟨rfl, rfl⟩ ⟨Nat.le_of_ble_eq_true rfl, Nat.le_of_ble_eq_true rfl⟩ ⟨Nat.le_of_ble_eq_true rfl, Nat.le_of_ble_eq_true rfl⟩ (Nat.le_of_ble_eq_true rfl) rfl (fun hr1 hs1 => ?_)
  exact r_ret2 hr dX5_readWay_19 hr1 hf
set_option maxRecDepth 20000 in
theorem b_Re_readWay_152 {l : Launch} {D : va_G} {cs : Nat → ClassId} {aS aV : Nat} {A : Nat → Prop} {K : KT} {ad : Nat → Nat} {n : Nat} {nl : Nat → Nat → Bool} {out : Int × SS} (h : w_Cl l rm_Re_readWay D cs aS aV A cX5_readWay 3 RX5 "readWay" K) (hr : w_Rt 2 cX5_readWay 0 0 (w_Po ad n nl out) K) (hw : w_WH n nl) (ht : 42 < n) {u1 : Nat} (pu1 : u1 < n) (pc1 : rC u1 = 4) (s0 : SS) (hf : j_Re_readWay_152 u1 s0 = some out) : K ad n nl 0 0 152 [(1, .ref (ad u1))] [] s0 := by
  unfold j_Re_readWay_152 at hf
  refine r_rS h (fun hs0 => ?_)
  refine r_aload_n h dX5_readWay_152 rfl 0 rfl ?_
  refine r_dup h dX5_readWay_153 rfl ?_
  refine g_X5_112 h dX5_readWay_154 pu1 pc1 ?_
  refine r_iconst h dX5_readWay_157 ?_
  refine r_iadd h dX5_readWay_158 ?_
  refine p_X5_112 h dX5_readWay_159 pu1 pc1 (rI_iw _) ?_
  refine r_os hf (fun s1 hf => ?_)
  refine r_rS h (fun hs1 => ?_)
  refine r_iconst h dX5_readWay_162 ?_
  exact r_ret2 hr dX5_readWay_163 (Or.inr rfl) hf
set_option maxRecDepth 20000 in
theorem m_Re_readWay {l : Launch} {D : va_G} {cs : Nat → ClassId} {aS aV : Nat} {A : Nat → Prop} {ad : Nat → Nat} {n : Nat} {nl : Nat → Nat → Bool} {out : Int × SS} (hw : w_WH n nl) (ht : 42 < n) {u1 : Nat} (pu1 : u1 < n) (pc1 : rC u1 = 4) {s0 : SS} (hs0 : rS s0) (hf : f_Re_readWay u1 s0 = some out) : w_MC l D cs aS aV A yX5_readWay cX5_readWay 3 2 rm_Re_readWay ad n nl [.ref (ad 42), .ref (ad u1)] s0 (w_Po ad n nl out) := by
  refine w_MC_of (by decide +kernel) (by decide) hs0 (Nat.le_of_ble_eq_true rfl) (fun K h hr => ?_)
  refine r_lv (lv' := [(0, .ref (ad 42)), (1, .ref (ad u1))]) rfl ?_
  unfold f_Re_readWay at hf
  refine r_rS h (fun hs0 => ?_)
  refine r_aload_n h dX5_readWay_0 rfl 1 rfl ?_
  refine g_X5_112 h dX5_readWay_1 pu1 pc1 ?_
  refine r_ol hf (hs0.1 _ _) (fun x1_ rx1_ hf => ?_)
  refine r_istore_n h [(2, .int (vI x1_)), (0, .ref (ad 42)), (1, .ref (ad u1))] dX5_readWay_4 rfl (by decide) rfl ?_
  refine r_iload_n h dX5_readWay_5 rfl 0 rfl ?_
  refine r_if_lt (tgt := 15) h dX5_readWay_6 (by decide) rx1_ (fun hc2 => ?_) (fun hc2 => ?_)
  · have hf := ite_t hc2 hf
    refine r_sub h [1] rfl ?_
    exact b_Re_readWay_15 h hr hw ht pu1 pc1 s0 hf
  · have hf := ite_f hc2 hf
    refine r_iload_n h dX5_readWay_9 rfl 0 rfl ?_
    refine r_bipush h dX5_readWay_10 (by decide) ?_
    refine r_icmp_lt (tgt := 20) h dX5_readWay_12 (by decide) rx1_ (rIc rfl) (fun hc3 => ?_) (fun hc3 => ?_)
    · have hf := ite_t hc3 hf
      refine r_aload_n h dX5_readWay_20 rfl 1 rfl ?_
      have hq4 := w_ref hw ht rC_42 (by decide) (k := 0) (by decide) rf_5_0
      refine g_X5_9 h dX5_readWay_21 ht rC_42 hq4.1 ?_
      obtain ⟨r5, s5, hq5, hf⟩ := ob_some hf
      refine r_callV0 h [] dX5_readWay_24 (fun hs => m_To_move hw hq4.2 hs hq5) ml_X5_87 cv_To_move rfl (co := 10) rfl (by decide) hq4.2 rC_43 ⟨rfl, rfl⟩ ⟨Nat.le_of_ble_eq_true rfl, Nat.le_of_ble_eq_true rfl⟩ ⟨Nat.le_of_ble_eq_true rfl, Nat.le_of_ble_eq_true rfl⟩ (Nat.le_of_ble_eq_true rfl) rfl (fun hr5 hs5 => ?_)
      refine r_aload_n h dX5_readWay_27 rfl 1 rfl ?_
      refine r_aload_n h dX5_readWay_28 rfl 2 rfl ?_
      refine r_iconst h dX5_readWay_29 ?_
      obtain ⟨r6, s6, hq6, hf⟩ := ob_some hf
      refine r_callV2 h [.ref (ad u1), .int (vI (-1))] dX5_readWay_30 (fun hs => m_Re_readPlaceName hw ht pu1 pc1 (rIc rfl) hs hq6) ml_X5_115 cv_Re_readPlaceName rfl (co := 5) rfl (by decide) ht rC_42 ⟨rfl, rfl⟩ ⟨Nat.le_of_ble_eq_true rfl, Nat.le_of_ble_eq_true rfl⟩ ⟨Nat.le_of_ble_eq_true rfl, Nat.le_of_ble_eq_true rfl⟩ (Nat.le_of_ble_eq_true rfl) rfl (fun hr6 hs6 => ?_)
      refine r_if_ne (tgt := 38) h dX5_readWay_33 (by decide) (rI_b hr6) (fun hc7 => ?_) (fun hc7 => ?_)
      · have hf := ite_f hc7 hf
        refine r_aload_n h dX5_readWay_38 rfl 2 rfl ?_
        have hq8c := rf_4_5 _ pc1
        have hq8 := w_ref hw pu1 pc1 (by decide) (k := 5) (by decide) hq8c.1
        refine g_X5_119 h dX5_readWay_39 pu1 pc1 hq8.1 ?_
        refine r_iload_n h dX5_readWay_42 rfl 0 rfl ?_
        refine r_aload_n h dX5_readWay_43 rfl 1 rfl ?_
        refine g_X5_109 h dX5_readWay_44 ht rC_42 ?_
        obtain ⟨hi9, hf⟩ := oc_some hf
        refine r_iast h dX5_readWay_47 hq8.2 hq8c.2.1 rx1_ (N := 14) (by rw [hq8c.2.2]; rfl) (j := (x1_).toNat) rfl hi9 (hs6.1 _ _) ?_
        refine r_os hf (fun s10 hf => ?_)
        refine r_rS h (fun hs10 => ?_)
        refine r_aload_n h dX5_readWay_48 rfl 1 rfl ?_
        refine r_sipush h dX5_readWay_49 (by decide) ?_
        obtain ⟨r11, s11, hq11, hf⟩ := ob_some hf
        refine r_callV2 h [.int (vI 260)] dX5_readWay_52 (fun hs => m_Re_expect hw ht (rIc rfl) hs hq11) ml_X5_80 cv_Re_expect rfl (co := 5) rfl (by decide) ht rC_42 ⟨rfl, rfl⟩ ⟨Nat.le_of_ble_eq_true rfl, Nat.le_of_ble_eq_true rfl⟩ ⟨Nat.le_of_ble_eq_true rfl, Nat.le_of_ble_eq_true rfl⟩ (Nat.le_of_ble_eq_true rfl) rfl (fun hr11 hs11 => ?_)
        refine r_if_eq (tgt := 72) h dX5_readWay_55 (by decide) (rI_b hr11) (fun hc12 => ?_) (fun hc12 => ?_)
        · have hf := ite_t hc12 hf
          refine r_iconst h dX5_readWay_72 ?_
          exact r_ret2 hr dX5_readWay_73 (Or.inl rfl) hf
        · have hf := ite_f hc12 hf
          refine r_aload_n h dX5_readWay_58 rfl 1 rfl ?_
          refine r_aload_n h dX5_readWay_59 rfl 2 rfl ?_
          refine r_aload_n h dX5_readWay_60 rfl 2 rfl ?_
          have hq13c := rf_4_5 _ pc1
          have hq13 := w_ref hw pu1 pc1 (by decide) (k := 5) (by decide) hq13c.1
          refine g_X5_119 h dX5_readWay_61 pu1 pc1 hq13.1 ?_
          refine r_iload_n h dX5_readWay_64 rfl 0 rfl ?_
          obtain ⟨hi14, hf⟩ := oc_some hf
          refine r_iald h dX5_readWay_65 hq13.2 hq13c.2.1 rx1_ (N := 14) (by rw [hq13c.2.2]; rfl) (j := (x1_).toNat) rfl hi14 ?_
          obtain ⟨r15, s15, hq15, hf⟩ := ob_some hf
          refine r_callV2 h [.ref (ad u1), .int (vI (gi s11 (u1 + 4) ((x1_).toNat)))] dX5_readWay_66 (fun hs => m_Re_readPlaceName hw ht pu1 pc1 (hs11.1 _ _) hs hq15) ml_X5_115 cv_Re_readPlaceName rfl (co := 5) rfl (by decide) ht rC_42 ⟨rfl, rfl⟩ ⟨Nat.le_of_ble_eq_true rfl, Nat.le_of_ble_eq_true rfl⟩ ⟨Nat.le_of_ble_eq_true rfl, Nat.le_of_ble_eq_true rfl⟩ (Nat.le_of_ble_eq_true rfl) rfl (fun hr15 hs15 => ?_)
          refine r_if_ne (tgt := 74) h dX5_readWay_69 (by decide) (rI_b hr15) (fun hc16 => ?_) (fun hc16 => ?_)
          · have hf := ite_f hc16 hf
            refine r_aload_n h dX5_readWay_74 rfl 2 rfl ?_
            have hq17c := rf_4_6 _ pc1
            have hq17 := w_ref hw pu1 pc1 (by decide) (k := 6) (by decide) hq17c.1
            refine g_X5_122 h dX5_readWay_75 pu1 pc1 hq17.1 ?_
            refine r_iload_n h dX5_readWay_78 rfl 0 rfl ?_
            refine r_aload_n h dX5_readWay_79 rfl 1 rfl ?_
            refine g_X5_109 h dX5_readWay_80 ht rC_42 ?_
            obtain ⟨hi18, hf⟩ := oc_some hf
            refine r_iast h dX5_readWay_83 hq17.2 hq17c.2.1 rx1_ (N := 14) (by rw [hq17c.2.2]; rfl) (j := (x1_).toNat) rfl hi18 (hs15.1 _ _) ?_
            refine r_os hf (fun s19 hf => ?_)
            refine r_rS h (fun hs19 => ?_)
            refine r_aload_n h dX5_readWay_84 rfl 1 rfl ?_
            refine r_iconst h dX5_readWay_85 ?_
            refine r_bipush h dX5_readWay_86 (by decide) ?_
            obtain ⟨r20, s20, hq20, hf⟩ := ob_some hf
            refine r_callV2 h [.int (vI 1), .int (vI 40)] dX5_readWay_88 (fun hs => m_Re_readNumber hw ht (rIc rfl) (rIc rfl) hs hq20) ml_X5_125 cv_Re_readNumber rfl (co := 5) rfl (by decide) ht rC_42 ⟨rfl, rfl⟩ ⟨Nat.le_of_ble_eq_true rfl, Nat.le_of_ble_eq_true rfl⟩ ⟨Nat.le_of_ble_eq_true rfl, Nat.le_of_ble_eq_true rfl⟩ (Nat.le_of_ble_eq_true rfl) rfl (fun hr20 hs20 => ?_)
            refine r_if_ne (tgt := 96) h dX5_readWay_91 (by decide) (rI_b hr20) (fun hc21 => ?_) (fun hc21 => ?_)
            · have hf := ite_f hc21 hf
              refine r_aload_n h dX5_readWay_96 rfl 2 rfl ?_
              have hq22c := rf_4_7 _ pc1
              have hq22 := w_ref hw pu1 pc1 (by decide) (k := 7) (by decide) hq22c.1
              refine g_X5_129 h dX5_readWay_97 pu1 pc1 hq22.1 ?_
              refine r_iload_n h dX5_readWay_100 rfl 0 rfl ?_
              refine r_aload_n h dX5_readWay_101 rfl 1 rfl ?_
              refine g_X5_109 h dX5_readWay_102 ht rC_42 ?_
              obtain ⟨hi23, hf⟩ := oc_some hf
              refine r_iast h dX5_readWay_105 hq22.2 hq22c.2.1 rx1_ (N := 14) (by rw [hq22c.2.2]; rfl) (j := (x1_).toNat) rfl hi23 (hs20.1 _ _) ?_
              refine r_os hf (fun s24 hf => ?_)
              refine r_rS h (fun hs24 => ?_)
              refine r_aload_n h dX5_readWay_106 rfl 2 rfl ?_
              have hq25c := rf_4_8 _ pc1
              have hq25 := w_ref hw pu1 pc1 (by decide) (k := 8) (by decide) hq25c.1
              refine g_X5_132 h dX5_readWay_107 pu1 pc1 hq25.1 ?_
              refine r_iload_n h dX5_readWay_110 rfl 0 rfl ?_
              refine r_iconst h dX5_readWay_111 ?_
              obtain ⟨hi26, hf⟩ := oc_some hf
              refine r_iast h dX5_readWay_112 hq25.2 hq25c.2.1 rx1_ (N := 14) (by rw [hq25c.2.2]; rfl) (j := (x1_).toNat) rfl hi26 (rIc rfl) ?_
              refine r_os hf (fun s27 hf => ?_)
              refine r_rS h (fun hs27 => ?_)
              refine r_aload_n h dX5_readWay_113 rfl 1 rfl ?_
              have hq28 := w_ref hw ht rC_42 (by decide) (k := 0) (by decide) rf_5_0
              refine g_X5_9 h dX5_readWay_114 ht rC_42 hq28.1 ?_
              refine g_X5_46 h dX5_readWay_117 hq28.2 rC_43 ?_
              refine r_sipush h dX5_readWay_120 (by decide) ?_
              refine r_icmp_ne (tgt := 152) h dX5_readWay_123 (by decide) (hs27.1 _ _) (rIc rfl) (fun hc29 => ?_) (fun hc29 => ?_)
              · have hf := ite_f hc29 hf
                refine r_sub h [2] rfl ?_
                exact b_Re_readWay_152 h hr hw ht pu1 pc1 s27 hf
              · have hf := ite_nf hc29 hf
                refine r_aload_n h dX5_readWay_126 rfl 1 rfl ?_
                have hq30 := w_ref hw ht rC_42 (by decide) (k := 0) (by decide) rf_5_0
                refine g_X5_9 h dX5_readWay_127 ht rC_42 hq30.1 ?_
                obtain ⟨r31, s31, hq31, hf⟩ := ob_some hf
                refine r_callV0 h [] dX5_readWay_130 (fun hs => m_To_move hw hq30.2 hs hq31) ml_X5_87 cv_To_move rfl (co := 10) rfl (by decide) hq30.2 rC_43 ⟨rfl, rfl⟩ ⟨Nat.le_of_ble_eq_true rfl, Nat.le_of_ble_eq_true rfl⟩ ⟨Nat.le_of_ble_eq_true rfl, Nat.le_of_ble_eq_true rfl⟩ (Nat.le_of_ble_eq_true rfl) rfl (fun hr31 hs31 => ?_)
                refine r_aload_n h dX5_readWay_133 rfl 1 rfl ?_
                obtain ⟨r32, s32, hq32, hf⟩ := ob_some hf
                refine r_callV2 h [] dX5_readWay_134 (fun hs => m_Re_readSight hw ht hs hq32) ml_X5_135 cv_Re_readSight rfl (co := 5) rfl (by decide) ht rC_42 ⟨rfl, rfl⟩ ⟨Nat.le_of_ble_eq_true rfl, Nat.le_of_ble_eq_true rfl⟩ ⟨Nat.le_of_ble_eq_true rfl, Nat.le_of_ble_eq_true rfl⟩ (Nat.le_of_ble_eq_true rfl) rfl (fun hr32 hs32 => ?_)
                refine r_if_ne (tgt := 142) h dX5_readWay_137 (by decide) (rI_b hr32) (fun hc33 => ?_) (fun hc33 => ?_)
                · have hf := ite_f hc33 hf
                  refine r_aload_n h dX5_readWay_142 rfl 2 rfl ?_
                  have hq34c := rf_4_8 _ pc1
                  have hq34 := w_ref hw pu1 pc1 (by decide) (k := 8) (by decide) hq34c.1
                  refine g_X5_132 h dX5_readWay_143 pu1 pc1 hq34.1 ?_
                  refine r_iload_n h dX5_readWay_146 rfl 0 rfl ?_
                  refine r_aload_n h dX5_readWay_147 rfl 1 rfl ?_
                  refine g_X5_109 h dX5_readWay_148 ht rC_42 ?_
                  obtain ⟨hi35, hf⟩ := oc_some hf
                  refine r_iast h dX5_readWay_151 hq34.2 hq34c.2.1 rx1_ (N := 14) (by rw [hq34c.2.2]; rfl) (j := (x1_).toNat) rfl hi35 (hs32.1 _ _) ?_
                  refine r_os hf (fun s36 hf => ?_)
                  refine r_rS h (fun hs36 => ?_)
                  refine r_sub h [2] rfl ?_
                  exact b_Re_readWay_152 h hr hw ht pu1 pc1 s36 hf
                · have hf := ite_nf hc33 hf
                  refine r_iconst h dX5_readWay_140 ?_
                  exact r_ret2 hr dX5_readWay_141 (Or.inl rfl) hf
            · have hf := ite_nf hc21 hf
              refine r_iconst h dX5_readWay_94 ?_
              exact r_ret2 hr dX5_readWay_95 (Or.inl rfl) hf
          · have hf := ite_nf hc16 hf
            refine r_iconst h dX5_readWay_72 ?_
            exact r_ret2 hr dX5_readWay_73 (Or.inl rfl) hf
      · have hf := ite_nf hc7 hf
        refine r_iconst h dX5_readWay_36 ?_
        exact r_ret2 hr dX5_readWay_37 (Or.inl rfl) hf
    · have hf := ite_f hc3 hf
      refine r_sub h [1] rfl ?_
      exact b_Re_readWay_15 h hr hw ht pu1 pc1 s0 hf
set_option maxRecDepth 20000 in
theorem b_Re_readSoul_15 {l : Launch} {D : va_G} {cs : Nat → ClassId} {aS aV : Nat} {A : Nat → Prop} {K : KT} {ad : Nat → Nat} {n : Nat} {nl : Nat → Nat → Bool} {out : Int × SS} (h : w_Cl l rm_Re_readSoul D cs aS aV A cX5_readSoul 3 RX5 "readSoul" K) (hr : w_Rt 2 cX5_readSoul 0 0 (w_Po ad n nl out) K) (hw : w_WH n nl) (ht : 42 < n) {u1 : Nat} (pu1 : u1 < n) (pc1 : rC u1 = 4) (s0 : SS) (hf : j_Re_readSoul_15 u1 s0 = some out) : K ad n nl 0 0 15 [(0, .ref (ad 42))] [] s0 := by
  unfold j_Re_readSoul_15 at hf
  refine r_rS h (fun hs0 => ?_)
  refine r_aload_n h dX5_readSoul_15 rfl 0 rfl ?_
  obtain ⟨r1, s1, hq1, hf⟩ := ob_some hf
  refine r_callV2 h [] dX5_readSoul_16 (fun hs => m_Re_refuse hw ht hs hq1) ml_X5_76 cv_Re_refuse rfl (co := 5) rfl (by decide) ht rC_42 ⟨rfl, rfl⟩ ⟨Nat.le_of_ble_eq_true rfl, Nat.le_of_ble_eq_true rfl⟩ ⟨Nat.le_of_ble_eq_true rfl, Nat.le_of_ble_eq_true rfl⟩ (Nat.le_of_ble_eq_true rfl) rfl (fun hr1 hs1 => ?_)
  exact r_ret2 hr dX5_readSoul_19 hr1 hf
set_option maxRecDepth 20000 in
theorem m_Re_readSoul {l : Launch} {D : va_G} {cs : Nat → ClassId} {aS aV : Nat} {A : Nat → Prop} {ad : Nat → Nat} {n : Nat} {nl : Nat → Nat → Bool} {out : Int × SS} (hw : w_WH n nl) (ht : 42 < n) {u1 : Nat} (pu1 : u1 < n) (pc1 : rC u1 = 4) {s0 : SS} (hs0 : rS s0) (hf : f_Re_readSoul u1 s0 = some out) : w_MC l D cs aS aV A yX5_readSoul cX5_readSoul 3 2 rm_Re_readSoul ad n nl [.ref (ad 42), .ref (ad u1)] s0 (w_Po ad n nl out) := by
  refine w_MC_of (by decide +kernel) (by decide) hs0 (Nat.le_of_ble_eq_true rfl) (fun K h hr => ?_)
  refine r_lv (lv' := [(0, .ref (ad 42)), (1, .ref (ad u1))]) rfl ?_
  unfold f_Re_readSoul at hf
  refine r_rS h (fun hs0 => ?_)
  refine r_aload_n h dX5_readSoul_0 rfl 1 rfl ?_
  refine g_X5_147 h dX5_readSoul_1 pu1 pc1 ?_
  refine r_ol hf (hs0.1 _ _) (fun x1_ rx1_ hf => ?_)
  refine r_istore_n h [(2, .int (vI x1_)), (0, .ref (ad 42)), (1, .ref (ad u1))] dX5_readSoul_4 rfl (by decide) rfl ?_
  refine r_iload_n h dX5_readSoul_5 rfl 0 rfl ?_
  refine r_if_lt (tgt := 15) h dX5_readSoul_6 (by decide) rx1_ (fun hc2 => ?_) (fun hc2 => ?_)
  · have hf := ite_t hc2 hf
    refine r_sub h [1] rfl ?_
    exact b_Re_readSoul_15 h hr hw ht pu1 pc1 s0 hf
  · have hf := ite_f hc2 hf
    refine r_iload_n h dX5_readSoul_9 rfl 0 rfl ?_
    refine r_bipush h dX5_readSoul_10 (by decide) ?_
    refine r_icmp_lt (tgt := 20) h dX5_readSoul_12 (by decide) rx1_ (rIc rfl) (fun hc3 => ?_) (fun hc3 => ?_)
    · have hf := ite_t hc3 hf
      refine r_aload_n h dX5_readSoul_20 rfl 1 rfl ?_
      have hq4 := w_ref hw ht rC_42 (by decide) (k := 0) (by decide) rf_5_0
      refine g_X5_9 h dX5_readSoul_21 ht rC_42 hq4.1 ?_
      obtain ⟨r5, s5, hq5, hf⟩ := ob_some hf
      refine r_callV0 h [] dX5_readSoul_24 (fun hs => m_To_move hw hq4.2 hs hq5) ml_X5_87 cv_To_move rfl (co := 10) rfl (by decide) hq4.2 rC_43 ⟨rfl, rfl⟩ ⟨Nat.le_of_ble_eq_true rfl, Nat.le_of_ble_eq_true rfl⟩ ⟨Nat.le_of_ble_eq_true rfl, Nat.le_of_ble_eq_true rfl⟩ (Nat.le_of_ble_eq_true rfl) rfl (fun hr5 hs5 => ?_)
      refine r_aload_n h dX5_readSoul_27 rfl 1 rfl ?_
      refine r_aload_n h dX5_readSoul_28 rfl 2 rfl ?_
      have hq6c := rf_4_10 _ pc1
      have hq6 := w_ref hw pu1 pc1 (by decide) (k := 10) (by decide) hq6c.1
      refine g_X5_150 h dX5_readSoul_29 pu1 pc1 hq6.1 ?_
      refine r_iload_n h dX5_readSoul_32 rfl 0 rfl ?_
      obtain ⟨r7, s7, hq7, hf⟩ := ob_some hf
      refine r_callV2 h [.ref (ad (u1 + 8)), .int (vI x1_)] dX5_readSoul_33 (fun hs => m_Re_readNewName hw ht hq6.2 hq6c.2.1 rx1_ hs hq7) ml_X5_94 cv_Re_readNewName rfl (co := 5) rfl (by decide) ht rC_42 ⟨rfl, rfl⟩ ⟨Nat.le_of_ble_eq_true rfl, Nat.le_of_ble_eq_true rfl⟩ ⟨Nat.le_of_ble_eq_true rfl, Nat.le_of_ble_eq_true rfl⟩ (Nat.le_of_ble_eq_true rfl) rfl (fun hr7 hs7 => ?_)
      refine r_if_eq (tgt := 52) h dX5_readSoul_36 (by decide) (rI_b hr7) (fun hc8 => ?_) (fun hc8 => ?_)
      · have hf := ite_t hc8 hf
        refine r_iconst h dX5_readSoul_52 ?_
        exact r_ret2 hr dX5_readSoul_53 (Or.inl rfl) hf
      · have hf := ite_f hc8 hf
        refine r_aload_n h dX5_readSoul_39 rfl 1 rfl ?_
        refine r_sipush h dX5_readSoul_40 (by decide) ?_
        refine r_iconst h dX5_readSoul_43 ?_
        refine r_bipush h dX5_readSoul_44 (by decide) ?_
        obtain ⟨r9, s9, hq9, hf⟩ := ob_some hf
        refine r_callV2 h [.int (vI 263), .int (vI 0), .int (vI 9)] dX5_readSoul_46 (fun hs => m_Re_readNumberBehind hw ht (rIc rfl) (rIc rfl) (rIc rfl) hs hq9) ml_X5_105 cv_Re_readNumberBehind rfl (co := 5) rfl (by decide) ht rC_42 ⟨rfl, rfl⟩ ⟨Nat.le_of_ble_eq_true rfl, Nat.le_of_ble_eq_true rfl⟩ ⟨Nat.le_of_ble_eq_true rfl, Nat.le_of_ble_eq_true rfl⟩ (Nat.le_of_ble_eq_true rfl) rfl (fun hr9 hs9 => ?_)
        refine r_if_ne (tgt := 54) h dX5_readSoul_49 (by decide) (rI_b hr9) (fun hc10 => ?_) (fun hc10 => ?_)
        · have hf := ite_f hc10 hf
          refine r_aload_n h dX5_readSoul_54 rfl 2 rfl ?_
          have hq11c := rf_4_11 _ pc1
          have hq11 := w_ref hw pu1 pc1 (by decide) (k := 11) (by decide) hq11c.1
          refine g_X5_153 h dX5_readSoul_55 pu1 pc1 hq11.1 ?_
          refine r_iconst h dX5_readSoul_58 ?_
          refine r_iload_n h dX5_readSoul_59 rfl 0 rfl ?_
          refine r_imul h dX5_readSoul_60 ?_
          refine r_aload_n h dX5_readSoul_61 rfl 1 rfl ?_
          refine g_X5_109 h dX5_readSoul_62 ht rC_42 ?_
          obtain ⟨hi12, hf⟩ := oc_some hf
          refine r_iast h dX5_readSoul_65 hq11.2 hq11c.2.1 (rI_iw _) (N := 12) (by rw [hq11c.2.2]; rfl) (j := (iw (2 * x1_)).toNat) rfl hi12 (hs9.1 _ _) ?_
          refine r_os hf (fun s13 hf => ?_)
          refine r_rS h (fun hs13 => ?_)
          refine r_aload_n h dX5_readSoul_66 rfl 1 rfl ?_
          refine r_sipush h dX5_readSoul_67 (by decide) ?_
          refine r_iconst h dX5_readSoul_70 ?_
          refine r_bipush h dX5_readSoul_71 (by decide) ?_
          obtain ⟨r14, s14, hq14, hf⟩ := ob_some hf
          refine r_callV2 h [.int (vI 264), .int (vI 0), .int (vI 9)] dX5_readSoul_73 (fun hs => m_Re_readNumberBehind hw ht (rIc rfl) (rIc rfl) (rIc rfl) hs hq14) ml_X5_105 cv_Re_readNumberBehind rfl (co := 5) rfl (by decide) ht rC_42 ⟨rfl, rfl⟩ ⟨Nat.le_of_ble_eq_true rfl, Nat.le_of_ble_eq_true rfl⟩ ⟨Nat.le_of_ble_eq_true rfl, Nat.le_of_ble_eq_true rfl⟩ (Nat.le_of_ble_eq_true rfl) rfl (fun hr14 hs14 => ?_)
          refine r_if_ne (tgt := 81) h dX5_readSoul_76 (by decide) (rI_b hr14) (fun hc15 => ?_) (fun hc15 => ?_)
          · have hf := ite_f hc15 hf
            refine r_aload_n h dX5_readSoul_81 rfl 2 rfl ?_
            have hq16c := rf_4_11 _ pc1
            have hq16 := w_ref hw pu1 pc1 (by decide) (k := 11) (by decide) hq16c.1
            refine g_X5_153 h dX5_readSoul_82 pu1 pc1 hq16.1 ?_
            refine r_iconst h dX5_readSoul_85 ?_
            refine r_iload_n h dX5_readSoul_86 rfl 0 rfl ?_
            refine r_imul h dX5_readSoul_87 ?_
            refine r_iconst h dX5_readSoul_88 ?_
            refine r_iadd h dX5_readSoul_89 ?_
            refine r_aload_n h dX5_readSoul_90 rfl 1 rfl ?_
            refine g_X5_109 h dX5_readSoul_91 ht rC_42 ?_
            obtain ⟨hi17, hf⟩ := oc_some hf
            refine r_iast h dX5_readSoul_94 hq16.2 hq16c.2.1 (rI_iw _) (N := 12) (by rw [hq16c.2.2]; rfl) (j := (iw ((iw (2 * x1_)) + 1)).toNat) rfl hi17 (hs14.1 _ _) ?_
            refine r_os hf (fun s18 hf => ?_)
            refine r_rS h (fun hs18 => ?_)
            refine r_aload_n h dX5_readSoul_95 rfl 2 rfl ?_
            refine r_dup h dX5_readSoul_96 rfl ?_
            refine g_X5_147 h dX5_readSoul_97 pu1 pc1 ?_
            refine r_iconst h dX5_readSoul_100 ?_
            refine r_iadd h dX5_readSoul_101 ?_
            refine p_X5_147 h dX5_readSoul_102 pu1 pc1 (rI_iw _) ?_
            refine r_os hf (fun s19 hf => ?_)
            refine r_rS h (fun hs19 => ?_)
            refine r_iconst h dX5_readSoul_105 ?_
            exact r_ret2 hr dX5_readSoul_106 (Or.inr rfl) hf
          · have hf := ite_nf hc15 hf
            refine r_iconst h dX5_readSoul_79 ?_
            exact r_ret2 hr dX5_readSoul_80 (Or.inl rfl) hf
        · have hf := ite_nf hc10 hf
          refine r_iconst h dX5_readSoul_52 ?_
          exact r_ret2 hr dX5_readSoul_53 (Or.inl rfl) hf
    · have hf := ite_f hc3 hf
      refine r_sub h [1] rfl ?_
      exact b_Re_readSoul_15 h hr hw ht pu1 pc1 s0 hf
set_option maxRecDepth 20000 in
theorem b_Re_readMatter_144 {l : Launch} {D : va_G} {cs : Nat → ClassId} {aS aV : Nat} {A : Nat → Prop} {K : KT} {ad : Nat → Nat} {n : Nat} {nl : Nat → Nat → Bool} {out : Int × SS} (h : w_Cl l rm_Re_readMatter D cs aS aV A cX5_readMatter 4 RX5 "readMatter" K) (hr : w_Rt 2 cX5_readMatter 0 0 (w_Po ad n nl out) K) (hw : w_WH n nl) (ht : 42 < n) {u1 : Nat} (pu1 : u1 < n) (pc1 : rC u1 = 4) (x2 : Int) (x3 : Int) (s0 : SS) (rx2 : rI x2) (rx3 : rI x3) (hf : j_Re_readMatter_144 u1 x2 x3 s0 = some out) : K ad n nl 0 0 144 [(1, .ref (ad u1)), (2, .int (vI x2)), (3, .int (vI x3))] [] s0 := by
  unfold j_Re_readMatter_144 at hf
  refine r_rS h (fun hs0 => ?_)
  refine r_aload_n h dX5_readMatter_144 rfl 0 rfl ?_
  have hq1c := rf_4_15 _ pc1
  have hq1 := w_ref hw pu1 pc1 (by decide) (k := 15) (by decide) hq1c.1
  refine g_X5_168 h dX5_readMatter_145 pu1 pc1 hq1.1 ?_
  refine r_iload_n h dX5_readMatter_148 rfl 1 rfl ?_
  refine r_iload_n h dX5_readMatter_149 rfl 2 rfl ?_
  obtain ⟨hi2, hf⟩ := oc_some hf
  refine r_iast h dX5_readMatter_150 hq1.2 hq1c.2.1 rx2 (N := 6) (by rw [hq1c.2.2]; rfl) (j := (x2).toNat) rfl hi2 rx3 ?_
  refine r_os hf (fun s3 hf => ?_)
  refine r_rS h (fun hs3 => ?_)
  refine r_aload_n h dX5_readMatter_151 rfl 0 rfl ?_
  refine r_dup h dX5_readMatter_152 rfl ?_
  refine g_X5_156 h dX5_readMatter_153 pu1 pc1 ?_
  refine r_iconst h dX5_readMatter_156 ?_
  refine r_iadd h dX5_readMatter_157 ?_
  refine p_X5_156 h dX5_readMatter_158 pu1 pc1 (rI_iw _) ?_
  refine r_os hf (fun s4 hf => ?_)
  refine r_rS h (fun hs4 => ?_)
  refine r_iconst h dX5_readMatter_161 ?_
  exact r_ret2 hr dX5_readMatter_162 (Or.inr rfl) hf
set_option maxRecDepth 20000 in
theorem b_Re_readMatter_94 {l : Launch} {D : va_G} {cs : Nat → ClassId} {aS aV : Nat} {A : Nat → Prop} {K : KT} {ad : Nat → Nat} {n : Nat} {nl : Nat → Nat → Bool} {out : Int × SS} (h : w_Cl l rm_Re_readMatter D cs aS aV A cX5_readMatter 4 RX5 "readMatter" K) (hr : w_Rt 2 cX5_readMatter 0 0 (w_Po ad n nl out) K) (hw : w_WH n nl) (ht : 42 < n) {u1 : Nat} (pu1 : u1 < n) (pc1 : rC u1 = 4) {y2 : Int} (ry2 : rI y2) : ∀ (fu : Nat) (x3 : Int) (s0 : SS), rI x3 → l_Re_readMatter_94 u1 y2 fu x3 s0 = some out → K ad n nl 0 0 94 [(0, .ref (ad 42)), (1, .ref (ad u1)), (2, .int (vI y2)), (3, .int (vI x3))] [] s0 := by
  intro fu
  induction fu with
  | zero =>
    intro x3 s0 rx3 hf
    rw [l_Re_readMatter_94] at hf
    cases hf
  | succ fu ih =>
    intro x3 s0 rx3 hf
    rw [l_Re_readMatter_94] at hf
    refine r_rS h (fun hs0 => ?_)
    refine r_iload_n h dX5_readMatter_94 rfl 3 rfl ?_
    refine r_bipush h dX5_readMatter_95 (by decide) ?_
    refine r_icmp_ge (tgt := 144) h dX5_readMatter_97 (by decide) rx3 (rIc rfl) (fun hc1 => ?_) (fun hc1 => ?_)
    · have hf := ite_t hc1 hf
      refine r_sub h [1, 2, 3] rfl ?_
      exact b_Re_readMatter_144 h hr hw ht pu1 pc1 y2 x3 s0 ry2 rx3 hf
    · have hf := ite_f hc1 hf
      refine r_aload_n h dX5_readMatter_100 rfl 0 rfl ?_
      have hq2 := w_ref hw ht rC_42 (by decide) (k := 0) (by decide) rf_5_0
      refine g_X5_9 h dX5_readMatter_101 ht rC_42 hq2.1 ?_
      refine g_X5_46 h dX5_readMatter_104 hq2.2 rC_43 ?_
      refine r_iconst h dX5_readMatter_107 ?_
      refine r_icmp_ne (tgt := 144) h dX5_readMatter_108 (by decide) (hs0.1 _ _) (rIc rfl) (fun hc3 => ?_) (fun hc3 => ?_)
      · have hf := ite_f hc3 hf
        refine r_sub h [1, 2, 3] rfl ?_
        exact b_Re_readMatter_144 h hr hw ht pu1 pc1 y2 x3 s0 ry2 rx3 hf
      · have hf := ite_nf hc3 hf
        refine r_aload_n h dX5_readMatter_111 rfl 0 rfl ?_
        refine r_iconst h dX5_readMatter_112 ?_
        refine r_bipush h dX5_readMatter_113 (by decide) ?_
        obtain ⟨r4, s4, hq4, hf⟩ := ob_some hf
        refine r_callV2 h [.int (vI 1), .int (vI 9)] dX5_readMatter_115 (fun hs => m_Re_readNumber hw ht (rIc rfl) (rIc rfl) hs hq4) ml_X5_125 cv_Re_readNumber rfl (co := 5) rfl (by decide) ht rC_42 ⟨rfl, rfl⟩ ⟨Nat.le_of_ble_eq_true rfl, Nat.le_of_ble_eq_true rfl⟩ ⟨Nat.le_of_ble_eq_true rfl, Nat.le_of_ble_eq_true rfl⟩ (Nat.le_of_ble_eq_true rfl) rfl (fun hr4 hs4 => ?_)
        refine r_if_ne (tgt := 123) h dX5_readMatter_118 (by decide) (rI_b hr4) (fun hc5 => ?_) (fun hc5 => ?_)
        · have hf := ite_f hc5 hf
          refine r_aload_n h dX5_readMatter_123 rfl 1 rfl ?_
          have hq6c := rf_4_16 _ pc1
          have hq6 := w_ref hw pu1 pc1 (by decide) (k := 16) (by decide) hq6c.1
          refine g_X5_165 h dX5_readMatter_124 pu1 pc1 hq6.1 ?_
          refine r_iload_n h dX5_readMatter_127 rfl 2 rfl ?_
          refine r_bipush h dX5_readMatter_128 (by decide) ?_
          refine r_imul h dX5_readMatter_130 ?_
          refine r_iload_n h dX5_readMatter_131 rfl 3 rfl ?_
          refine r_iadd h dX5_readMatter_132 ?_
          refine r_aload_n h dX5_readMatter_133 rfl 0 rfl ?_
          refine g_X5_109 h dX5_readMatter_134 ht rC_42 ?_
          obtain ⟨hi7, hf⟩ := oc_some hf
          refine r_iast h dX5_readMatter_137 hq6.2 hq6c.2.1 (rI_iw _) (N := 48) (by rw [hq6c.2.2]; rfl) (j := (iw ((iw (y2 * 8)) + x3)).toNat) rfl hi7 (hs4.1 _ _) ?_
          refine r_os hf (fun s8 hf => ?_)
          refine r_rS h (fun hs8 => ?_)
          refine r_iinc h [(3, .int (vI (iw (x3 + 1)))), (0, .ref (ad 42)), (1, .ref (ad u1)), (2, .int (vI y2))] dX5_readMatter_138 3 rfl (by decide) rfl ?_
          refine r_goto (tgt := 94) h dX5_readMatter_141 (by decide) ?_
          refine r_sub h [1, 2, 3, 0] rfl ?_
          exact ih (iw (x3 + 1)) s8 (rI_iw _) hf
        · have hf := ite_nf hc5 hf
          refine r_iconst h dX5_readMatter_121 ?_
          exact r_ret2 hr dX5_readMatter_122 (Or.inl rfl) hf
set_option maxRecDepth 20000 in
theorem b_Re_readMatter_15 {l : Launch} {D : va_G} {cs : Nat → ClassId} {aS aV : Nat} {A : Nat → Prop} {K : KT} {ad : Nat → Nat} {n : Nat} {nl : Nat → Nat → Bool} {out : Int × SS} (h : w_Cl l rm_Re_readMatter D cs aS aV A cX5_readMatter 4 RX5 "readMatter" K) (hr : w_Rt 2 cX5_readMatter 0 0 (w_Po ad n nl out) K) (hw : w_WH n nl) (ht : 42 < n) {u1 : Nat} (pu1 : u1 < n) (pc1 : rC u1 = 4) (s0 : SS) (hf : j_Re_readMatter_15 u1 s0 = some out) : K ad n nl 0 0 15 [(0, .ref (ad 42))] [] s0 := by
  unfold j_Re_readMatter_15 at hf
  refine r_rS h (fun hs0 => ?_)
  refine r_aload_n h dX5_readMatter_15 rfl 0 rfl ?_
  obtain ⟨r1, s1, hq1, hf⟩ := ob_some hf
  refine r_callV2 h [] dX5_readMatter_16 (fun hs => m_Re_refuse hw ht hs hq1) ml_X5_76 cv_Re_refuse rfl (co := 5) rfl (by decide) ht rC_42 ⟨rfl, rfl⟩ ⟨Nat.le_of_ble_eq_true rfl, Nat.le_of_ble_eq_true rfl⟩ ⟨Nat.le_of_ble_eq_true rfl, Nat.le_of_ble_eq_true rfl⟩ (Nat.le_of_ble_eq_true rfl) rfl (fun hr1 hs1 => ?_)
  exact r_ret2 hr dX5_readMatter_19 hr1 hf
set_option maxRecDepth 20000 in
theorem m_Re_readMatter {l : Launch} {D : va_G} {cs : Nat → ClassId} {aS aV : Nat} {A : Nat → Prop} {ad : Nat → Nat} {n : Nat} {nl : Nat → Nat → Bool} {out : Int × SS} (hw : w_WH n nl) (ht : 42 < n) {u1 : Nat} (pu1 : u1 < n) (pc1 : rC u1 = 4) {s0 : SS} (hs0 : rS s0) (hf : f_Re_readMatter u1 s0 = some out) : w_MC l D cs aS aV A yX5_readMatter cX5_readMatter 4 2 rm_Re_readMatter ad n nl [.ref (ad 42), .ref (ad u1)] s0 (w_Po ad n nl out) := by
  refine w_MC_of (by decide +kernel) (by decide) hs0 (Nat.le_of_ble_eq_true rfl) (fun K h hr => ?_)
  refine r_lv (lv' := [(0, .ref (ad 42)), (1, .ref (ad u1))]) rfl ?_
  unfold f_Re_readMatter at hf
  refine r_rS h (fun hs0 => ?_)
  refine r_aload_n h dX5_readMatter_0 rfl 1 rfl ?_
  refine g_X5_156 h dX5_readMatter_1 pu1 pc1 ?_
  refine r_ol hf (hs0.1 _ _) (fun x1_ rx1_ hf => ?_)
  refine r_istore_n h [(2, .int (vI x1_)), (0, .ref (ad 42)), (1, .ref (ad u1))] dX5_readMatter_4 rfl (by decide) rfl ?_
  refine r_iload_n h dX5_readMatter_5 rfl 0 rfl ?_
  refine r_if_lt (tgt := 15) h dX5_readMatter_6 (by decide) rx1_ (fun hc2 => ?_) (fun hc2 => ?_)
  · have hf := ite_t hc2 hf
    refine r_sub h [1] rfl ?_
    exact b_Re_readMatter_15 h hr hw ht pu1 pc1 s0 hf
  · have hf := ite_f hc2 hf
    refine r_iload_n h dX5_readMatter_9 rfl 0 rfl ?_
    refine r_bipush h dX5_readMatter_10 (by decide) ?_
    refine r_icmp_lt (tgt := 20) h dX5_readMatter_12 (by decide) rx1_ (rIc rfl) (fun hc3 => ?_) (fun hc3 => ?_)
    · have hf := ite_t hc3 hf
      refine r_aload_n h dX5_readMatter_20 rfl 1 rfl ?_
      have hq4 := w_ref hw ht rC_42 (by decide) (k := 0) (by decide) rf_5_0
      refine g_X5_9 h dX5_readMatter_21 ht rC_42 hq4.1 ?_
      obtain ⟨r5, s5, hq5, hf⟩ := ob_some hf
      refine r_callV0 h [] dX5_readMatter_24 (fun hs => m_To_move hw hq4.2 hs hq5) ml_X5_87 cv_To_move rfl (co := 10) rfl (by decide) hq4.2 rC_43 ⟨rfl, rfl⟩ ⟨Nat.le_of_ble_eq_true rfl, Nat.le_of_ble_eq_true rfl⟩ ⟨Nat.le_of_ble_eq_true rfl, Nat.le_of_ble_eq_true rfl⟩ (Nat.le_of_ble_eq_true rfl) rfl (fun hr5 hs5 => ?_)
      refine r_aload_n h dX5_readMatter_27 rfl 1 rfl ?_
      refine r_aload_n h dX5_readMatter_28 rfl 2 rfl ?_
      have hq6c := rf_4_13 _ pc1
      have hq6 := w_ref hw pu1 pc1 (by decide) (k := 13) (by decide) hq6c.1
      refine g_X5_159 h dX5_readMatter_29 pu1 pc1 hq6.1 ?_
      refine r_iload_n h dX5_readMatter_32 rfl 0 rfl ?_
      obtain ⟨r7, s7, hq7, hf⟩ := ob_some hf
      refine r_callV2 h [.ref (ad (u1 + 10)), .int (vI x1_)] dX5_readMatter_33 (fun hs => m_Re_readNewName hw ht hq6.2 hq6c.2.1 rx1_ hs hq7) ml_X5_94 cv_Re_readNewName rfl (co := 5) rfl (by decide) ht rC_42 ⟨rfl, rfl⟩ ⟨Nat.le_of_ble_eq_true rfl, Nat.le_of_ble_eq_true rfl⟩ ⟨Nat.le_of_ble_eq_true rfl, Nat.le_of_ble_eq_true rfl⟩ (Nat.le_of_ble_eq_true rfl) rfl (fun hr7 hs7 => ?_)
      refine r_if_eq (tgt := 52) h dX5_readMatter_36 (by decide) (rI_b hr7) (fun hc8 => ?_) (fun hc8 => ?_)
      · have hf := ite_t hc8 hf
        refine r_iconst h dX5_readMatter_52 ?_
        exact r_ret2 hr dX5_readMatter_53 (Or.inl rfl) hf
      · have hf := ite_f hc8 hf
        refine r_aload_n h dX5_readMatter_39 rfl 1 rfl ?_
        refine r_sipush h dX5_readMatter_40 (by decide) ?_
        refine r_iconst h dX5_readMatter_43 ?_
        refine r_bipush h dX5_readMatter_44 (by decide) ?_
        obtain ⟨r9, s9, hq9, hf⟩ := ob_some hf
        refine r_callV2 h [.int (vI 266), .int (vI 1), .int (vI 99)] dX5_readMatter_46 (fun hs => m_Re_readNumberBehind hw ht (rIc rfl) (rIc rfl) (rIc rfl) hs hq9) ml_X5_105 cv_Re_readNumberBehind rfl (co := 5) rfl (by decide) ht rC_42 ⟨rfl, rfl⟩ ⟨Nat.le_of_ble_eq_true rfl, Nat.le_of_ble_eq_true rfl⟩ ⟨Nat.le_of_ble_eq_true rfl, Nat.le_of_ble_eq_true rfl⟩ (Nat.le_of_ble_eq_true rfl) rfl (fun hr9 hs9 => ?_)
        refine r_if_ne (tgt := 54) h dX5_readMatter_49 (by decide) (rI_b hr9) (fun hc10 => ?_) (fun hc10 => ?_)
        · have hf := ite_f hc10 hf
          refine r_aload_n h dX5_readMatter_54 rfl 2 rfl ?_
          have hq11c := rf_4_14 _ pc1
          have hq11 := w_ref hw pu1 pc1 (by decide) (k := 14) (by decide) hq11c.1
          refine g_X5_162 h dX5_readMatter_55 pu1 pc1 hq11.1 ?_
          refine r_iload_n h dX5_readMatter_58 rfl 0 rfl ?_
          refine r_aload_n h dX5_readMatter_59 rfl 1 rfl ?_
          refine g_X5_109 h dX5_readMatter_60 ht rC_42 ?_
          obtain ⟨hi12, hf⟩ := oc_some hf
          refine r_iast h dX5_readMatter_63 hq11.2 hq11c.2.1 rx1_ (N := 6) (by rw [hq11c.2.2]; rfl) (j := (x1_).toNat) rfl hi12 (hs9.1 _ _) ?_
          refine r_os hf (fun s13 hf => ?_)
          refine r_rS h (fun hs13 => ?_)
          refine r_aload_n h dX5_readMatter_64 rfl 1 rfl ?_
          refine r_sipush h dX5_readMatter_65 (by decide) ?_
          refine r_iconst h dX5_readMatter_68 ?_
          refine r_bipush h dX5_readMatter_69 (by decide) ?_
          obtain ⟨r14, s14, hq14, hf⟩ := ob_some hf
          refine r_callV2 h [.int (vI 267), .int (vI 1), .int (vI 9)] dX5_readMatter_71 (fun hs => m_Re_readNumberBehind hw ht (rIc rfl) (rIc rfl) (rIc rfl) hs hq14) ml_X5_105 cv_Re_readNumberBehind rfl (co := 5) rfl (by decide) ht rC_42 ⟨rfl, rfl⟩ ⟨Nat.le_of_ble_eq_true rfl, Nat.le_of_ble_eq_true rfl⟩ ⟨Nat.le_of_ble_eq_true rfl, Nat.le_of_ble_eq_true rfl⟩ (Nat.le_of_ble_eq_true rfl) rfl (fun hr14 hs14 => ?_)
          refine r_if_ne (tgt := 79) h dX5_readMatter_74 (by decide) (rI_b hr14) (fun hc15 => ?_) (fun hc15 => ?_)
          · have hf := ite_f hc15 hf
            refine r_aload_n h dX5_readMatter_79 rfl 2 rfl ?_
            have hq16c := rf_4_16 _ pc1
            have hq16 := w_ref hw pu1 pc1 (by decide) (k := 16) (by decide) hq16c.1
            refine g_X5_165 h dX5_readMatter_80 pu1 pc1 hq16.1 ?_
            refine r_iload_n h dX5_readMatter_83 rfl 0 rfl ?_
            refine r_bipush h dX5_readMatter_84 (by decide) ?_
            refine r_imul h dX5_readMatter_86 ?_
            refine r_aload_n h dX5_readMatter_87 rfl 1 rfl ?_
            refine g_X5_109 h dX5_readMatter_88 ht rC_42 ?_
            obtain ⟨hi17, hf⟩ := oc_some hf
            refine r_iast h dX5_readMatter_91 hq16.2 hq16c.2.1 (rI_iw _) (N := 48) (by rw [hq16c.2.2]; rfl) (j := (iw (x1_ * 8)).toNat) rfl hi17 (hs14.1 _ _) ?_
            refine r_os hf (fun s18 hf => ?_)
            refine r_rS h (fun hs18 => ?_)
            refine r_iconst h dX5_readMatter_92 ?_
            refine r_istore_n h [(3, .int (vI 1)), (2, .int (vI x1_)), (0, .ref (ad 42)), (1, .ref (ad u1))] dX5_readMatter_93 rfl (by decide) rfl ?_
            refine r_sub h [2, 3, 1, 0] rfl ?_
            exact b_Re_readMatter_94 h hr hw ht pu1 pc1 rx1_ FU 1 s18 (rIc rfl) hf
          · have hf := ite_nf hc15 hf
            refine r_iconst h dX5_readMatter_77 ?_
            exact r_ret2 hr dX5_readMatter_78 (Or.inl rfl) hf
        · have hf := ite_nf hc10 hf
          refine r_iconst h dX5_readMatter_52 ?_
          exact r_ret2 hr dX5_readMatter_53 (Or.inl rfl) hf
    · have hf := ite_f hc3 hf
      refine r_sub h [1] rfl ?_
      exact b_Re_readMatter_15 h hr hw ht pu1 pc1 s0 hf
set_option maxRecDepth 20000 in
theorem m_Re_readRule {l : Launch} {D : va_G} {cs : Nat → ClassId} {aS aV : Nat} {A : Nat → Prop} {ad : Nat → Nat} {n : Nat} {nl : Nat → Nat → Bool} {out : Int × SS} (hw : w_WH n nl) (ht : 42 < n) {u1 : Nat} (pu1 : u1 < n) (pc1 : rC u1 = 2) {s0 : SS} (hs0 : rS s0) (hf : f_Re_readRule u1 s0 = some out) : w_MC l D cs aS aV A yX5_readRule cX5_readRule 2 2 rm_Re_readRule ad n nl [.ref (ad 42), .ref (ad u1)] s0 (w_Po ad n nl out) := by
  refine w_MC_of (by decide +kernel) (by decide) hs0 (Nat.le_of_ble_eq_true rfl) (fun K h hr => ?_)
  refine r_lv (lv' := [(0, .ref (ad 42)), (1, .ref (ad u1))]) rfl ?_
  unfold f_Re_readRule at hf
  refine r_rS h (fun hs0 => ?_)
  refine r_aload_n h dX5_readRule_0 rfl 1 rfl ?_
  obtain ⟨r1, s1, hq1, hf⟩ := ob_some hf
  refine r_callV2 h [] dX5_readRule_1 (fun hs => m_Fo_isTold hw pu1 pc1 hs hq1) ml_X5_171 cv_Fo_isTold rfl (co := 2) rfl (by decide) pu1 pc1 ⟨rfl, rfl⟩ ⟨Nat.le_of_ble_eq_true rfl, Nat.le_of_ble_eq_true rfl⟩ ⟨Nat.le_of_ble_eq_true rfl, Nat.le_of_ble_eq_true rfl⟩ (Nat.le_of_ble_eq_true rfl) rfl (fun hr1 hs1 => ?_)
  refine r_if_eq (tgt := 12) h dX5_readRule_4 (by decide) (rI_b hr1) (fun hc2 => ?_) (fun hc2 => ?_)
  · have hf := ite_t hc2 hf
    refine r_aload_n h dX5_readRule_12 rfl 0 rfl ?_
    have hq3 := w_ref hw ht rC_42 (by decide) (k := 0) (by decide) rf_5_0
    refine g_X5_9 h dX5_readRule_13 ht rC_42 hq3.1 ?_
    obtain ⟨r4, s4, hq4, hf⟩ := ob_some hf
    refine r_callV0 h [] dX5_readRule_16 (fun hs => m_To_move hw hq3.2 hs hq4) ml_X5_87 cv_To_move rfl (co := 10) rfl (by decide) hq3.2 rC_43 ⟨rfl, rfl⟩ ⟨Nat.le_of_ble_eq_true rfl, Nat.le_of_ble_eq_true rfl⟩ ⟨Nat.le_of_ble_eq_true rfl, Nat.le_of_ble_eq_true rfl⟩ (Nat.le_of_ble_eq_true rfl) rfl (fun hr4 hs4 => ?_)
    refine r_aload_n h dX5_readRule_19 rfl 0 rfl ?_
    have hq5 := w_ref hw ht rC_42 (by decide) (k := 1) (by decide) rf_5_1
    refine g_X5_20 h dX5_readRule_20 ht rC_42 hq5.1 ?_
    refine r_aload_n h dX5_readRule_23 rfl 1 rfl ?_
    obtain ⟨r6, s6, hq6, hf⟩ := ob_some hf
    refine r_callV2 h [.ref (ad u1)] dX5_readRule_24 (fun hs => m_FR_readFormula hw hq5.2 pu1 pc1 hs hq6) ml_X5_176 cv_FR_readFormula rfl (co := 3) rfl (by decide) hq5.2 rC_44 ⟨rfl, rfl⟩ ⟨Nat.le_of_ble_eq_true rfl, Nat.le_of_ble_eq_true rfl⟩ ⟨Nat.le_of_ble_eq_true rfl, Nat.le_of_ble_eq_true rfl⟩ (Nat.le_of_ble_eq_true rfl) rfl (fun hr6 hs6 => ?_)
    refine r_if_ne (tgt := 37) h dX5_readRule_27 (by decide) (rI_b hr6) (fun hc7 => ?_) (fun hc7 => ?_)
    · have hf := ite_f hc7 hf
      refine r_iconst h dX5_readRule_37 ?_
      refine r_goto (tgt := 42) h dX5_readRule_38 (by decide) ?_
      exact r_ret2 hr dX5_readRule_42 (Or.inr rfl) hf
    · have hf := ite_nf hc7 hf
      refine r_aload_n h dX5_readRule_30 rfl 0 rfl ?_
      obtain ⟨r8, s8, hq8, hf⟩ := ob_some hf
      refine r_callV2 h [] dX5_readRule_31 (fun hs => m_Re_refuse hw ht hs hq8) ml_X5_76 cv_Re_refuse rfl (co := 5) rfl (by decide) ht rC_42 ⟨rfl, rfl⟩ ⟨Nat.le_of_ble_eq_true rfl, Nat.le_of_ble_eq_true rfl⟩ ⟨Nat.le_of_ble_eq_true rfl, Nat.le_of_ble_eq_true rfl⟩ (Nat.le_of_ble_eq_true rfl) rfl (fun hr8 hs8 => ?_)
      refine r_if_eq (tgt := 41) h dX5_readRule_34 (by decide) (rI_b hr8) (fun hc9 => ?_) (fun hc9 => ?_)
      · have hf := ite_t hc9 hf
        refine r_iconst h dX5_readRule_41 ?_
        exact r_ret2 hr dX5_readRule_42 (Or.inl rfl) hf
      · have hf := ite_f hc9 hf
        refine r_iconst h dX5_readRule_37 ?_
        refine r_goto (tgt := 42) h dX5_readRule_38 (by decide) ?_
        exact r_ret2 hr dX5_readRule_42 (Or.inr rfl) hf
  · have hf := ite_f hc2 hf
    refine r_aload_n h dX5_readRule_7 rfl 0 rfl ?_
    obtain ⟨r10, s10, hq10, hf⟩ := ob_some hf
    refine r_callV2 h [] dX5_readRule_8 (fun hs => m_Re_refuse hw ht hs hq10) ml_X5_76 cv_Re_refuse rfl (co := 5) rfl (by decide) ht rC_42 ⟨rfl, rfl⟩ ⟨Nat.le_of_ble_eq_true rfl, Nat.le_of_ble_eq_true rfl⟩ ⟨Nat.le_of_ble_eq_true rfl, Nat.le_of_ble_eq_true rfl⟩ (Nat.le_of_ble_eq_true rfl) rfl (fun hr10 hs10 => ?_)
    exact r_ret2 hr dX5_readRule_11 hr10 hf
set_option maxRecDepth 20000 in
theorem m_Re_readDraw {l : Launch} {D : va_G} {cs : Nat → ClassId} {aS aV : Nat} {A : Nat → Prop} {ad : Nat → Nat} {n : Nat} {nl : Nat → Nat → Bool} {out : Int × SS} (hw : w_WH n nl) (ht : 42 < n) {u1 : Nat} (pu1 : u1 < n) (pc1 : rC u1 = 4) {s0 : SS} (hs0 : rS s0) (hf : f_Re_readDraw u1 s0 = some out) : w_MC l D cs aS aV A yX5_readDraw cX5_readDraw 2 2 rm_Re_readDraw ad n nl [.ref (ad 42), .ref (ad u1)] s0 (w_Po ad n nl out) := by
  refine w_MC_of (by decide +kernel) (by decide) hs0 (Nat.le_of_ble_eq_true rfl) (fun K h hr => ?_)
  refine r_lv (lv' := [(0, .ref (ad 42)), (1, .ref (ad u1))]) rfl ?_
  unfold f_Re_readDraw at hf
  refine r_rS h (fun hs0 => ?_)
  refine r_aload_n h dX5_readDraw_0 rfl 0 rfl ?_
  refine g_X5_36 h dX5_readDraw_1 ht rC_42 ?_
  refine r_if_eq (tgt := 12) h dX5_readDraw_4 (by decide) (hs0.1 _ _) (fun hc1 => ?_) (fun hc1 => ?_)
  · have hf := ite_t hc1 hf
    refine r_aload_n h dX5_readDraw_12 rfl 0 rfl ?_
    refine r_iconst h dX5_readDraw_13 ?_
    refine p_X5_36 h dX5_readDraw_14 ht rC_42 (Or.inr rfl) ?_
    refine r_os hf (fun s2 hf => ?_)
    refine r_rS h (fun hs2 => ?_)
    refine r_aload_n h dX5_readDraw_17 rfl 0 rfl ?_
    refine r_sipush h dX5_readDraw_18 (by decide) ?_
    refine r_iconst h dX5_readDraw_21 ?_
    refine r_sipush h dX5_readDraw_22 (by decide) ?_
    obtain ⟨r3, s3, hq3, hf⟩ := ob_some hf
    refine r_callV2 h [.int (vI 270), .int (vI 0), .int (vI 999)] dX5_readDraw_25 (fun hs => m_Re_readNumberBehind hw ht (rIc rfl) (rIc rfl) (rIc rfl) hs hq3) ml_X5_105 cv_Re_readNumberBehind rfl (co := 5) rfl (by decide) ht rC_42 ⟨rfl, rfl⟩ ⟨Nat.le_of_ble_eq_true rfl, Nat.le_of_ble_eq_true rfl⟩ ⟨Nat.le_of_ble_eq_true rfl, Nat.le_of_ble_eq_true rfl⟩ (Nat.le_of_ble_eq_true rfl) rfl (fun hr3 hs3 => ?_)
    refine r_if_ne (tgt := 33) h dX5_readDraw_28 (by decide) (rI_b hr3) (fun hc4 => ?_) (fun hc4 => ?_)
    · have hf := ite_f hc4 hf
      refine r_aload_n h dX5_readDraw_33 rfl 1 rfl ?_
      refine r_aload_n h dX5_readDraw_34 rfl 0 rfl ?_
      refine g_X5_109 h dX5_readDraw_35 ht rC_42 ?_
      refine p_X5_179 h dX5_readDraw_38 pu1 pc1 (hs3.1 _ _) ?_
      refine r_os hf (fun s5 hf => ?_)
      refine r_rS h (fun hs5 => ?_)
      refine r_iconst h dX5_readDraw_41 ?_
      exact r_ret2 hr dX5_readDraw_42 (Or.inr rfl) hf
    · have hf := ite_nf hc4 hf
      refine r_iconst h dX5_readDraw_31 ?_
      exact r_ret2 hr dX5_readDraw_32 (Or.inl rfl) hf
  · have hf := ite_f hc1 hf
    refine r_aload_n h dX5_readDraw_7 rfl 0 rfl ?_
    obtain ⟨r6, s6, hq6, hf⟩ := ob_some hf
    refine r_callV2 h [] dX5_readDraw_8 (fun hs => m_Re_refuse hw ht hs hq6) ml_X5_76 cv_Re_refuse rfl (co := 5) rfl (by decide) ht rC_42 ⟨rfl, rfl⟩ ⟨Nat.le_of_ble_eq_true rfl, Nat.le_of_ble_eq_true rfl⟩ ⟨Nat.le_of_ble_eq_true rfl, Nat.le_of_ble_eq_true rfl⟩ (Nat.le_of_ble_eq_true rfl) rfl (fun hr6 hs6 => ?_)
    exact r_ret2 hr dX5_readDraw_11 hr6 hf
set_option maxRecDepth 20000 in
theorem b_Re_readLand_210 {l : Launch} {D : va_G} {cs : Nat → ClassId} {aS aV : Nat} {A : Nat → Prop} {K : KT} {ad : Nat → Nat} {n : Nat} {nl : Nat → Nat → Bool} {out : Int × SS} (h : w_Cl l rm_Re_readLand D cs aS aV A cX5_readLand 5 RX5 "readLand" K) (hr : w_Rt 2 cX5_readLand 0 0 (w_Po ad n nl out) K) (hw : w_WH n nl) (ht : 42 < n) {u1 : Nat} (pu1 : u1 < n) (pc1 : rC u1 = 4) (x3 : Int) (x4 : Int) (self32 : Int → Int → SS → OO) (hself32 : ∀ (x3 : Int) (x4 : Int) (τ : SS), rI x3 → rI x4 → self32 x3 x4 τ = some out → K ad n nl 0 0 32 [(0, .ref (ad 42)), (1, .ref (ad u1)), (3, .int (vI x3)), (4, .int (vI x4))] [] τ) (s0 : SS) (rx3 : rI x3) (rx4 : rI x4) (hf : j_Re_readLand_210 u1 self32 x3 x4 s0 = some out) : K ad n nl 0 0 210 [(0, .ref (ad 42)), (1, .ref (ad u1)), (3, .int (vI x3)), (4, .int (vI x4))] [] s0 := by
  unfold j_Re_readLand_210 at hf
  refine r_rS h (fun hs0 => ?_)
  refine r_iload_n h dX5_readLand_210 rfl 2 rfl ?_
  refine r_if_eq (tgt := 227) h dX5_readLand_211 (by decide) rx3 (fun hc1 => ?_) (fun hc1 => ?_)
  · have hf := ite_t hc1 hf
    refine r_iconst h dX5_readLand_227 ?_
    refine r_istore_n h [(3, .int (vI 0)), (0, .ref (ad 42)), (1, .ref (ad u1)), (4, .int (vI x4))] dX5_readLand_228 rfl (by decide) rfl ?_
    refine r_iinc h [(4, .int (vI (iw (x4 + 1)))), (3, .int (vI 0)), (0, .ref (ad 42)), (1, .ref (ad u1))] dX5_readLand_229 3 rfl (by decide) rfl ?_
    refine r_goto (tgt := 32) h dX5_readLand_232 (by decide) ?_
    refine r_sub h [2, 3, 1, 0] rfl ?_
    exact hself32 0 (iw (x4 + 1)) s0 (rIc rfl) (rI_iw _) hf
  · have hf := ite_f hc1 hf
    refine r_aload_n h dX5_readLand_214 rfl 0 rfl ?_
    refine r_bipush h dX5_readLand_215 (by decide) ?_
    obtain ⟨r2, s2, hq2, hf⟩ := ob_some hf
    refine r_callV2 h [.int (vI 59)] dX5_readLand_217 (fun hs => m_Re_expect hw ht (rIc rfl) hs hq2) ml_X5_80 cv_Re_expect rfl (co := 5) rfl (by decide) ht rC_42 ⟨rfl, rfl⟩ ⟨Nat.le_of_ble_eq_true rfl, Nat.le_of_ble_eq_true rfl⟩ ⟨Nat.le_of_ble_eq_true rfl, Nat.le_of_ble_eq_true rfl⟩ (Nat.le_of_ble_eq_true rfl) rfl (fun hr2 hs2 => ?_)
    refine r_if_eq (tgt := 227) h dX5_readLand_220 (by decide) (rI_b hr2) (fun hc3 => ?_) (fun hc3 => ?_)
    · have hf := ite_t hc3 hf
      refine r_iconst h dX5_readLand_227 ?_
      refine r_istore_n h [(3, .int (vI 0)), (0, .ref (ad 42)), (1, .ref (ad u1)), (4, .int (vI x4))] dX5_readLand_228 rfl (by decide) rfl ?_
      refine r_iinc h [(4, .int (vI (iw (x4 + 1)))), (3, .int (vI 0)), (0, .ref (ad 42)), (1, .ref (ad u1))] dX5_readLand_229 3 rfl (by decide) rfl ?_
      refine r_goto (tgt := 32) h dX5_readLand_232 (by decide) ?_
      refine r_sub h [2, 3, 1, 0] rfl ?_
      exact hself32 0 (iw (x4 + 1)) s2 (rIc rfl) (rI_iw _) hf
    · have hf := ite_f hc3 hf
      refine r_iconst h dX5_readLand_223 ?_
      refine r_goto (tgt := 228) h dX5_readLand_224 (by decide) ?_
      refine r_istore_n h [(3, .int (vI 1)), (0, .ref (ad 42)), (1, .ref (ad u1)), (4, .int (vI x4))] dX5_readLand_228 rfl (by decide) rfl ?_
      refine r_iinc h [(4, .int (vI (iw (x4 + 1)))), (3, .int (vI 1)), (0, .ref (ad 42)), (1, .ref (ad u1))] dX5_readLand_229 3 rfl (by decide) rfl ?_
      refine r_goto (tgt := 32) h dX5_readLand_232 (by decide) ?_
      refine r_sub h [2, 3, 1, 0] rfl ?_
      exact hself32 1 (iw (x4 + 1)) s2 (rIc rfl) (rI_iw _) hf
set_option maxRecDepth 20000 in
theorem b_Re_readLand_32 {l : Launch} {D : va_G} {cs : Nat → ClassId} {aS aV : Nat} {A : Nat → Prop} {K : KT} {ad : Nat → Nat} {n : Nat} {nl : Nat → Nat → Bool} {out : Int × SS} (h : w_Cl l rm_Re_readLand D cs aS aV A cX5_readLand 5 RX5 "readLand" K) (hr : w_Rt 2 cX5_readLand 0 0 (w_Po ad n nl out) K) (hw : w_WH n nl) (ht : 42 < n) {u1 : Nat} (pu1 : u1 < n) (pc1 : rC u1 = 4) : ∀ (fu : Nat) (x3 : Int) (x4 : Int) (s0 : SS), rI x3 → rI x4 → l_Re_readLand_32 u1 fu x3 x4 s0 = some out → K ad n nl 0 0 32 [(0, .ref (ad 42)), (1, .ref (ad u1)), (3, .int (vI x3)), (4, .int (vI x4))] [] s0 := by
  intro fu
  induction fu with
  | zero =>
    intro x3 x4 s0 rx3 rx4 hf
    rw [l_Re_readLand_32] at hf
    cases hf
  | succ fu ih =>
    intro x3 x4 s0 rx3 rx4 hf
    rw [l_Re_readLand_32] at hf
    refine r_rS h (fun hs0 => ?_)
    refine r_iload h dX5_readLand_32 3 rfl ?_
    refine r_sipush h dX5_readLand_34 (by decide) ?_
    refine r_icmp_gt (tgt := 235) h dX5_readLand_37 (by decide) rx4 (rIc rfl) (fun hc1 => ?_) (fun hc1 => ?_)
    · have hf := ite_t hc1 hf
      refine r_iload_n h dX5_readLand_235 rfl 2 rfl ?_
      obtain ⟨hb2, hf⟩ := oc_some hf
      exact r_ret2 hr dX5_readLand_236 hb2 hf
    · have hf := ite_f hc1 hf
      refine r_iload_n h dX5_readLand_40 rfl 2 rfl ?_
      refine r_if_eq (tgt := 235) h dX5_readLand_41 (by decide) rx3 (fun hc3 => ?_) (fun hc3 => ?_)
      · have hf := ite_t hc3 hf
        refine r_iload_n h dX5_readLand_235 rfl 2 rfl ?_
        obtain ⟨hb4, hf⟩ := oc_some hf
        exact r_ret2 hr dX5_readLand_236 hb4 hf
      · have hf := ite_f hc3 hf
        refine r_aload_n h dX5_readLand_44 rfl 0 rfl ?_
        have hq5 := w_ref hw ht rC_42 (by decide) (k := 0) (by decide) rf_5_0
        refine g_X5_9 h dX5_readLand_45 ht rC_42 hq5.1 ?_
        refine g_X5_46 h dX5_readLand_48 hq5.2 rC_43 ?_
        refine r_if_eq (tgt := 235) h dX5_readLand_51 (by decide) (hs0.1 _ _) (fun hc6 => ?_) (fun hc6 => ?_)
        · have hf := ite_t hc6 hf
          refine r_iload_n h dX5_readLand_235 rfl 2 rfl ?_
          obtain ⟨hb7, hf⟩ := oc_some hf
          exact r_ret2 hr dX5_readLand_236 hb7 hf
        · have hf := ite_f hc6 hf
          refine r_aload_n h dX5_readLand_54 rfl 0 rfl ?_
          have hq8 := w_ref hw ht rC_42 (by decide) (k := 0) (by decide) rf_5_0
          refine g_X5_9 h dX5_readLand_55 ht rC_42 hq8.1 ?_
          refine g_X5_46 h dX5_readLand_58 hq8.2 rC_43 ?_
          by_cases hc9 : gi s0 43 3 = 256
          · have hf := ite_t hc9 hf
            refine r_tableIn (tgt := 136) h dX5_readLand_61 hc9 (rIc rfl) (by decide) (by decide) (off := 75) rfl (by decide) ?_
            refine r_aload_n h dX5_readLand_136 rfl 0 rfl ?_
            refine r_aload_n h dX5_readLand_137 rfl 1 rfl ?_
            obtain ⟨r10, s10, hq10, hf⟩ := ob_some hf
            refine r_callV2 h [.ref (ad u1)] dX5_readLand_138 (fun hs => m_Re_readPlace hw ht pu1 pc1 hs hq10) ml_X5_49 cv_Re_readPlace rfl (co := 5) rfl (by decide) ht rC_42 ⟨rfl, rfl⟩ ⟨Nat.le_of_ble_eq_true rfl, Nat.le_of_ble_eq_true rfl⟩ ⟨Nat.le_of_ble_eq_true rfl, Nat.le_of_ble_eq_true rfl⟩ (Nat.le_of_ble_eq_true rfl) rfl (fun hr10 hs10 => ?_)
            refine r_istore_n h [(3, .int (vI r10)), (0, .ref (ad 42)), (1, .ref (ad u1)), (4, .int (vI x4))] dX5_readLand_141 rfl (by decide) rfl ?_
            refine r_goto (tgt := 210) h dX5_readLand_142 (by decide) ?_
            refine r_sub h [1, 2, 0, 3] rfl ?_
            exact b_Re_readLand_210 h hr hw ht pu1 pc1 r10 x4 (l_Re_readLand_32 u1 fu) ih s10 (rI_b hr10) rx4 hf
          · have hf := ite_f hc9 hf
            by_cases hc11 : gi s0 43 3 = 259
            · have hf := ite_t hc11 hf
              refine r_tableIn (tgt := 145) h dX5_readLand_61 hc11 (rIc rfl) (by decide) (by decide) (off := 84) rfl (by decide) ?_
              refine r_aload_n h dX5_readLand_145 rfl 0 rfl ?_
              refine r_aload_n h dX5_readLand_146 rfl 1 rfl ?_
              obtain ⟨r12, s12, hq12, hf⟩ := ob_some hf
              refine r_callV2 h [.ref (ad u1)] dX5_readLand_147 (fun hs => m_Re_readWay hw ht pu1 pc1 hs hq12) ml_X5_53 cv_Re_readWay rfl (co := 5) rfl (by decide) ht rC_42 ⟨rfl, rfl⟩ ⟨Nat.le_of_ble_eq_true rfl, Nat.le_of_ble_eq_true rfl⟩ ⟨Nat.le_of_ble_eq_true rfl, Nat.le_of_ble_eq_true rfl⟩ (Nat.le_of_ble_eq_true rfl) rfl (fun hr12 hs12 => ?_)
              refine r_istore_n h [(3, .int (vI r12)), (0, .ref (ad 42)), (1, .ref (ad u1)), (4, .int (vI x4))] dX5_readLand_150 rfl (by decide) rfl ?_
              refine r_goto (tgt := 210) h dX5_readLand_151 (by decide) ?_
              refine r_sub h [1, 2, 0, 3] rfl ?_
              exact b_Re_readLand_210 h hr hw ht pu1 pc1 r12 x4 (l_Re_readLand_32 u1 fu) ih s12 (rI_b hr12) rx4 hf
            · have hf := ite_f hc11 hf
              by_cases hc13 : gi s0 43 3 = 262
              · have hf := ite_t hc13 hf
                refine r_tableIn (tgt := 154) h dX5_readLand_61 hc13 (rIc rfl) (by decide) (by decide) (off := 93) rfl (by decide) ?_
                refine r_aload_n h dX5_readLand_154 rfl 0 rfl ?_
                refine r_aload_n h dX5_readLand_155 rfl 1 rfl ?_
                obtain ⟨r14, s14, hq14, hf⟩ := ob_some hf
                refine r_callV2 h [.ref (ad u1)] dX5_readLand_156 (fun hs => m_Re_readSoul hw ht pu1 pc1 hs hq14) ml_X5_56 cv_Re_readSoul rfl (co := 5) rfl (by decide) ht rC_42 ⟨rfl, rfl⟩ ⟨Nat.le_of_ble_eq_true rfl, Nat.le_of_ble_eq_true rfl⟩ ⟨Nat.le_of_ble_eq_true rfl, Nat.le_of_ble_eq_true rfl⟩ (Nat.le_of_ble_eq_true rfl) rfl (fun hr14 hs14 => ?_)
                refine r_istore_n h [(3, .int (vI r14)), (0, .ref (ad 42)), (1, .ref (ad u1)), (4, .int (vI x4))] dX5_readLand_159 rfl (by decide) rfl ?_
                refine r_goto (tgt := 210) h dX5_readLand_160 (by decide) ?_
                refine r_sub h [1, 2, 0, 3] rfl ?_
                exact b_Re_readLand_210 h hr hw ht pu1 pc1 r14 x4 (l_Re_readLand_32 u1 fu) ih s14 (rI_b hr14) rx4 hf
              · have hf := ite_f hc13 hf
                by_cases hc15 : gi s0 43 3 = 265
                · have hf := ite_t hc15 hf
                  refine r_tableIn (tgt := 163) h dX5_readLand_61 hc15 (rIc rfl) (by decide) (by decide) (off := 102) rfl (by decide) ?_
                  refine r_aload_n h dX5_readLand_163 rfl 0 rfl ?_
                  refine r_aload_n h dX5_readLand_164 rfl 1 rfl ?_
                  obtain ⟨r16, s16, hq16, hf⟩ := ob_some hf
                  refine r_callV2 h [.ref (ad u1)] dX5_readLand_165 (fun hs => m_Re_readMatter hw ht pu1 pc1 hs hq16) ml_X5_59 cv_Re_readMatter rfl (co := 5) rfl (by decide) ht rC_42 ⟨rfl, rfl⟩ ⟨Nat.le_of_ble_eq_true rfl, Nat.le_of_ble_eq_true rfl⟩ ⟨Nat.le_of_ble_eq_true rfl, Nat.le_of_ble_eq_true rfl⟩ (Nat.le_of_ble_eq_true rfl) rfl (fun hr16 hs16 => ?_)
                  refine r_istore_n h [(3, .int (vI r16)), (0, .ref (ad 42)), (1, .ref (ad u1)), (4, .int (vI x4))] dX5_readLand_168 rfl (by decide) rfl ?_
                  refine r_goto (tgt := 210) h dX5_readLand_169 (by decide) ?_
                  refine r_sub h [1, 2, 0, 3] rfl ?_
                  exact b_Re_readLand_210 h hr hw ht pu1 pc1 r16 x4 (l_Re_readLand_32 u1 fu) ih s16 (rI_b hr16) rx4 hf
                · have hf := ite_f hc15 hf
                  by_cases hc17 : gi s0 43 3 = 268
                  · have hf := ite_t hc17 hf
                    refine r_tableIn (tgt := 172) h dX5_readLand_61 hc17 (rIc rfl) (by decide) (by decide) (off := 111) rfl (by decide) ?_
                    refine r_aload_n h dX5_readLand_172 rfl 0 rfl ?_
                    refine r_aload_n h dX5_readLand_173 rfl 1 rfl ?_
                    have hq18c := rf_4_18 _ pc1
                    have hq18 := w_ref hw pu1 pc1 (by decide) (k := 18) (by decide) hq18c.1
                    refine g_X5_62 h dX5_readLand_174 pu1 pc1 hq18.1 ?_
                    obtain ⟨r19, s19, hq19, hf⟩ := ob_some hf
                    refine r_callV2 h [.ref (ad (u1 + 14))] dX5_readLand_177 (fun hs => m_Re_readRule hw ht hq18.2 hq18c.2.1 hs hq19) ml_X5_66 cv_Re_readRule rfl (co := 5) rfl (by decide) ht rC_42 ⟨rfl, rfl⟩ ⟨Nat.le_of_ble_eq_true rfl, Nat.le_of_ble_eq_true rfl⟩ ⟨Nat.le_of_ble_eq_true rfl, Nat.le_of_ble_eq_true rfl⟩ (Nat.le_of_ble_eq_true rfl) rfl (fun hr19 hs19 => ?_)
                    refine r_istore_n h [(3, .int (vI r19)), (0, .ref (ad 42)), (1, .ref (ad u1)), (4, .int (vI x4))] dX5_readLand_180 rfl (by decide) rfl ?_
                    refine r_goto (tgt := 210) h dX5_readLand_181 (by decide) ?_
                    refine r_sub h [1, 2, 0, 3] rfl ?_
                    exact b_Re_readLand_210 h hr hw ht pu1 pc1 r19 x4 (l_Re_readLand_32 u1 fu) ih s19 (rI_b hr19) rx4 hf
                  · have hf := ite_f hc17 hf
                    by_cases hc20 : gi s0 43 3 = 269
                    · have hf := ite_t hc20 hf
                      refine r_tableIn (tgt := 184) h dX5_readLand_61 hc20 (rIc rfl) (by decide) (by decide) (off := 123) rfl (by decide) ?_
                      refine r_aload_n h dX5_readLand_184 rfl 0 rfl ?_
                      refine r_aload_n h dX5_readLand_185 rfl 1 rfl ?_
                      have hq21c := rf_4_19 _ pc1
                      have hq21 := w_ref hw pu1 pc1 (by decide) (k := 19) (by decide) hq21c.1
                      refine g_X5_70 h dX5_readLand_186 pu1 pc1 hq21.1 ?_
                      obtain ⟨r22, s22, hq22, hf⟩ := ob_some hf
                      refine r_callV2 h [.ref (ad (u1 + 17))] dX5_readLand_189 (fun hs => m_Re_readRule hw ht hq21.2 hq21c.2.1 hs hq22) ml_X5_66 cv_Re_readRule rfl (co := 5) rfl (by decide) ht rC_42 ⟨rfl, rfl⟩ ⟨Nat.le_of_ble_eq_true rfl, Nat.le_of_ble_eq_true rfl⟩ ⟨Nat.le_of_ble_eq_true rfl, Nat.le_of_ble_eq_true rfl⟩ (Nat.le_of_ble_eq_true rfl) rfl (fun hr22 hs22 => ?_)
                      refine r_istore_n h [(3, .int (vI r22)), (0, .ref (ad 42)), (1, .ref (ad u1)), (4, .int (vI x4))] dX5_readLand_192 rfl (by decide) rfl ?_
                      refine r_goto (tgt := 210) h dX5_readLand_193 (by decide) ?_
                      refine r_sub h [1, 2, 0, 3] rfl ?_
                      exact b_Re_readLand_210 h hr hw ht pu1 pc1 r22 x4 (l_Re_readLand_32 u1 fu) ih s22 (rI_b hr22) rx4 hf
                    · have hf := ite_f hc20 hf
                      by_cases hc23 : gi s0 43 3 = 270
                      · have hf := ite_t hc23 hf
                        refine r_tableIn (tgt := 196) h dX5_readLand_61 hc23 (rIc rfl) (by decide) (by decide) (off := 135) rfl (by decide) ?_
                        refine r_aload_n h dX5_readLand_196 rfl 0 rfl ?_
                        refine r_aload_n h dX5_readLand_197 rfl 1 rfl ?_
                        obtain ⟨r24, s24, hq24, hf⟩ := ob_some hf
                        refine r_callV2 h [.ref (ad u1)] dX5_readLand_198 (fun hs => m_Re_readDraw hw ht pu1 pc1 hs hq24) ml_X5_73 cv_Re_readDraw rfl (co := 5) rfl (by decide) ht rC_42 ⟨rfl, rfl⟩ ⟨Nat.le_of_ble_eq_true rfl, Nat.le_of_ble_eq_true rfl⟩ ⟨Nat.le_of_ble_eq_true rfl, Nat.le_of_ble_eq_true rfl⟩ (Nat.le_of_ble_eq_true rfl) rfl (fun hr24 hs24 => ?_)
                        refine r_istore_n h [(3, .int (vI r24)), (0, .ref (ad 42)), (1, .ref (ad u1)), (4, .int (vI x4))] dX5_readLand_201 rfl (by decide) rfl ?_
                        refine r_goto (tgt := 210) h dX5_readLand_202 (by decide) ?_
                        refine r_sub h [1, 2, 0, 3] rfl ?_
                        exact b_Re_readLand_210 h hr hw ht pu1 pc1 r24 x4 (l_Re_readLand_32 u1 fu) ih s24 (rI_b hr24) rx4 hf
                      · have hf := ite_f hc23 hf
                        refine r_tableX (tgt := 205) h dX5_readLand_61 (hs0.1 _ _) (by
                          have hz : gi s0 43 3 < 256 ∨ 270 < gi s0 43 3 ∨ gi s0 43 3 = 257 ∨ gi s0 43 3 = 258 ∨ gi s0 43 3 = 260 ∨ gi s0 43 3 = 261 ∨ gi s0 43 3 = 263 ∨ gi s0 43 3 = 264 ∨ gi s0 43 3 = 266 ∨ gi s0 43 3 = 267 := by omega
                          rcases hz with q | q | q | q | q | q | q | q | q | q
                          · exact Or.inl q
                          · exact Or.inr (Or.inl q)
                          · exact Or.inr (Or.inr ⟨144, by rw [q]; rfl, by rw [q]; decide, by rw [q]; decide, by decide⟩)
                          · exact Or.inr (Or.inr ⟨144, by rw [q]; rfl, by rw [q]; decide, by rw [q]; decide, by decide⟩)
                          · exact Or.inr (Or.inr ⟨144, by rw [q]; rfl, by rw [q]; decide, by rw [q]; decide, by decide⟩)
                          · exact Or.inr (Or.inr ⟨144, by rw [q]; rfl, by rw [q]; decide, by rw [q]; decide, by decide⟩)
                          · exact Or.inr (Or.inr ⟨144, by rw [q]; rfl, by rw [q]; decide, by rw [q]; decide, by decide⟩)
                          · exact Or.inr (Or.inr ⟨144, by rw [q]; rfl, by rw [q]; decide, by rw [q]; decide, by decide⟩)
                          · exact Or.inr (Or.inr ⟨144, by rw [q]; rfl, by rw [q]; decide, by rw [q]; decide, by decide⟩)
                          · exact Or.inr (Or.inr ⟨144, by rw [q]; rfl, by rw [q]; decide, by rw [q]; decide, by decide⟩)
                          ) (by decide) ?_
                        refine r_aload_n h dX5_readLand_205 rfl 0 rfl ?_
                        obtain ⟨r25, s25, hq25, hf⟩ := ob_some hf
                        refine r_callV2 h [] dX5_readLand_206 (fun hs => m_Re_refuse hw ht hs hq25) ml_X5_76 cv_Re_refuse rfl (co := 5) rfl (by decide) ht rC_42 ⟨rfl, rfl⟩ ⟨Nat.le_of_ble_eq_true rfl, Nat.le_of_ble_eq_true rfl⟩ ⟨Nat.le_of_ble_eq_true rfl, Nat.le_of_ble_eq_true rfl⟩ (Nat.le_of_ble_eq_true rfl) rfl (fun hr25 hs25 => ?_)
                        refine r_istore_n h [(3, .int (vI r25)), (0, .ref (ad 42)), (1, .ref (ad u1)), (4, .int (vI x4))] dX5_readLand_209 rfl (by decide) rfl ?_
                        refine r_sub h [1, 2, 0, 3] rfl ?_
                        exact b_Re_readLand_210 h hr hw ht pu1 pc1 r25 x4 (l_Re_readLand_32 u1 fu) ih s25 (rI_b hr25) rx4 hf
set_option maxRecDepth 20000 in
theorem m_Re_readLand {l : Launch} {D : va_G} {cs : Nat → ClassId} {aS aV : Nat} {A : Nat → Prop} {ad : Nat → Nat} {n : Nat} {nl : Nat → Nat → Bool} {out : Int × SS} (hw : w_WH n nl) (ht : 42 < n) {u1 : Nat} (pu1 : u1 < n) (pc1 : rC u1 = 4) {a2 : Int} (ra2 : rI a2) {s0 : SS} (hs0 : rS s0) (hf : f_Re_readLand u1 a2 s0 = some out) : w_MC l D cs aS aV A yX5_readLand cX5_readLand 5 2 rm_Re_readLand ad n nl [.ref (ad 42), .ref (ad u1), .int (vI a2)] s0 (w_Po ad n nl out) := by
  refine w_MC_of (by decide +kernel) (by decide) hs0 (Nat.le_of_ble_eq_true rfl) (fun K h hr => ?_)
  refine r_lv (lv' := [(0, .ref (ad 42)), (1, .ref (ad u1)), (2, .int (vI a2))]) rfl ?_
  unfold f_Re_readLand at hf
  refine r_rS h (fun hs0 => ?_)
  refine r_aload_n h dX5_readLand_0 rfl 1 rfl ?_
  obtain ⟨r1, s1, hq1, hf⟩ := ob_some hf
  refine r_callV0 h [] dX5_readLand_1 (fun hs => m_La_clear hw pu1 pc1 hs hq1) ml_X5_31 cv_La_clear rfl (co := 4) rfl (by decide) pu1 pc1 ⟨rfl, rfl⟩ ⟨Nat.le_of_ble_eq_true rfl, Nat.le_of_ble_eq_true rfl⟩ ⟨Nat.le_of_ble_eq_true rfl, Nat.le_of_ble_eq_true rfl⟩ (Nat.le_of_ble_eq_true rfl) rfl (fun hr1 hs1 => ?_)
  refine r_aload_n h dX5_readLand_4 rfl 0 rfl ?_
  refine r_iconst h dX5_readLand_5 ?_
  refine p_X5_24 h dX5_readLand_6 ht rC_42 (rIc rfl) ?_
  refine r_os hf (fun s2 hf => ?_)
  refine r_rS h (fun hs2 => ?_)
  refine r_aload_n h dX5_readLand_9 rfl 0 rfl ?_
  refine r_iconst h dX5_readLand_10 ?_
  refine p_X5_28 h dX5_readLand_11 ht rC_42 (rIc rfl) ?_
  refine r_os hf (fun s3 hf => ?_)
  refine r_rS h (fun hs3 => ?_)
  refine r_aload_n h dX5_readLand_14 rfl 0 rfl ?_
  refine r_iconst h dX5_readLand_15 ?_
  refine p_X5_36 h dX5_readLand_16 ht rC_42 (Or.inl rfl) ?_
  refine r_os hf (fun s4 hf => ?_)
  refine r_rS h (fun hs4 => ?_)
  refine r_aload_n h dX5_readLand_19 rfl 0 rfl ?_
  have hq5 := w_ref hw ht rC_42 (by decide) (k := 0) (by decide) rf_5_0
  refine g_X5_9 h dX5_readLand_20 ht rC_42 hq5.1 ?_
  refine r_iload_n h dX5_readLand_23 rfl 2 rfl ?_
  obtain ⟨r6, s6, hq6, hf⟩ := ob_some hf
  refine r_callV0 h [.int (vI a2)] dX5_readLand_24 (fun hs => m_To_open hw hq5.2 ra2 hs hq6) ml_X5_40 cv_To_open rfl (co := 10) rfl (by decide) hq5.2 rC_43 ⟨rfl, rfl⟩ ⟨Nat.le_of_ble_eq_true rfl, Nat.le_of_ble_eq_true rfl⟩ ⟨Nat.le_of_ble_eq_true rfl, Nat.le_of_ble_eq_true rfl⟩ (Nat.le_of_ble_eq_true rfl) rfl (fun hr6 hs6 => ?_)
  refine r_iconst h dX5_readLand_27 ?_
  refine r_istore_n h [(3, .int (vI 1)), (0, .ref (ad 42)), (1, .ref (ad u1)), (2, .int (vI a2))] dX5_readLand_28 rfl (by decide) rfl ?_
  refine r_iconst h dX5_readLand_29 ?_
  refine r_istore h [(4, .int (vI 0)), (3, .int (vI 1)), (0, .ref (ad 42)), (1, .ref (ad u1)), (2, .int (vI a2))] dX5_readLand_30 (by decide) rfl ?_
  refine r_sub h [2, 3, 1, 0] rfl ?_
  exact b_Re_readLand_32 h hr hw ht pu1 pc1 FU 1 0 s6 (rIc rfl) (rIc rfl) hf
