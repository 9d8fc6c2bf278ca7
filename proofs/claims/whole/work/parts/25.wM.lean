noncomputable def f_Mo_sign (a1 : Int) (s0 : SS) : OO :=
  if (gi s0 86 3) ≤ a1 then (
    some (0, s0))
  else (
    oc (0 ≤ a1 ∧ a1 < 1600) <|
    some (zand (gi s0 88 ((a1).toNat)) 255, s0))
noncomputable def f_Mo_isLetter (a1 : Int) (s0 : SS) : OO :=
  if a1 < 97 then (
    some (0, s0))
  else (
    if 122 < a1 then (
      some (0, s0))
    else (
      some (1, s0)))
noncomputable def f_Mo_isDigit (a1 : Int) (s0 : SS) : OO :=
  if a1 < 48 then (
    some (0, s0))
  else (
    if 57 < a1 then (
      some (0, s0))
    else (
      some (1, s0)))
noncomputable def f_Mo_fails (a1 : Int) (a2 : Int) (s0 : SS) : OO :=
  if (gi s0 86 4) ≤ 0 then (
    os (si s0 86 4 a1) fun s2 =>
    os (si s2 86 5 a2) fun s3 =>
    some (0, s3))
  else (
    some (0, s0))
noncomputable def f_Mo_isGood  (s0 : SS) : OO :=
  if (gi s0 86 4) = 0 then (
    some (1, s0))
  else (
    some (0, s0))
noncomputable def j_Mo_isKept_93  (x0 : Int) (z0 : Int) (s0 : SS) : OO :=
  if z0 = 0 then (
    if (ycmp x0 28518) = 0 then (
      some (1, s0))
    else (
      if (ycmp x0 1751474548) = 0 then (
        some (1, s0))
      else (
        if (ycmp x0 1650549611) = 0 then (
          some (1, s0))
        else (
          if (ycmp x0 1685217655) = 0 then (
            some (1, s0))
          else (
            if (ycmp x0 444301141350) = 0 then (
              some (1, s0))
            else (
              if (ycmp x0 1835625573) = 0 then (
                some (1, s0))
              else (
                if (ycmp x0 1818584692) = 0 then (
                  some (1, s0))
                else (
                  if (ycmp x0 28530) = 0 then (
                    some (1, s0))
                  else (
                    if (ycmp x0 6385252) = 0 then (
                      some (1, s0))
                    else (
                      if (ycmp x0 7237492) = 0 then (
                        some (1, s0))
                      else (
                        some (0, s0))))))))))))
  else (
    some (1, s0))
noncomputable def j_Mo_isKept_88  (x0 : Int) (s0 : SS) : OO :=
  j_Mo_isKept_93 x0 1 s0
noncomputable def f_Mo_isKept (a1 : Int) (s0 : SS) : OO :=
  if (ycmp a1 482854658917) = 0 then (
    j_Mo_isKept_88 a1 s0)
  else (
    if (ycmp a1 1667329133) = 0 then (
      j_Mo_isKept_88 a1 s0)
    else (
      if (ycmp a1 1701013615) = 0 then (
        j_Mo_isKept_88 a1 s0)
      else (
        if (ycmp a1 7823737) = 0 then (
          j_Mo_isKept_88 a1 s0)
        else (
          if (ycmp a1 29807) = 0 then (
            j_Mo_isKept_88 a1 s0)
          else (
            if (ycmp a1 495689623668) = 0 then (
              j_Mo_isKept_88 a1 s0)
            else (
              if (ycmp a1 1936684396) = 0 then (
                j_Mo_isKept_88 a1 s0)
              else (
                if (ycmp a1 8319403477078864494) = 0 then (
                  j_Mo_isKept_88 a1 s0)
                else (
                  if (ycmp a1 495673373300) = 0 then (
                    j_Mo_isKept_88 a1 s0)
                  else (
                    if (ycmp a1 120265333040498) = 0 then (
                      j_Mo_isKept_88 a1 s0)
                    else (
                      if (ycmp a1 422877228659) = 0 then (
                        j_Mo_isKept_88 a1 s0)
                      else (
                        j_Mo_isKept_93 a1 0 s0)))))))))))
noncomputable def f_Mo_isSign (a1 : Int) (s0 : SS) : OO :=
  if a1 = 59 then (
    some (1, s0))
  else (
    if a1 = 40 then (
      some (1, s0))
    else (
      if a1 = 41 then (
        some (1, s0))
      else (
        if a1 = 60 then (
          some (1, s0))
        else (
          if a1 = 62 then (
            some (1, s0))
          else (
            if a1 = 61 then (
              some (1, s0))
            else (
              if a1 = 43 then (
                some (1, s0))
              else (
                if a1 = 45 then (
                  some (1, s0))
                else (
                  if a1 = 42 then (
                    some (1, s0))
                  else (
                    if a1 = 47 then (
                      some (1, s0))
                    else (
                      if a1 = 37 then (
                        some (1, s0))
                      else (
                        some (0, s0))))))))))))
noncomputable def j_Mo_goOn_45 (self8 : SS → OO)  (s0 : SS) : OO :=
  os (si s0 86 6 (iw ((gi s0 86 6) + 1))) fun s1 =>
  self8 s1
noncomputable def j_Mo_goOn_233  (z1 : Int) (s0 : SS) : OO :=
  os (si s0 86 8 z1) fun s1 =>
  some (0, s1)
noncomputable def j_Mo_goOn_199   (s0 : SS) : OO :=
  if (iw ((gi s0 86 7) - (gi s0 86 6))) ≤ 8 then (
    ob (f_Mo_isKept (gj s0 86 10) s0) fun r2 s2 =>
    if r2 = 0 then (
      j_Mo_goOn_233 2 s2)
    else (
      j_Mo_goOn_233 3 s2))
  else (
    j_Mo_goOn_233 1 s0)
noncomputable def l_Mo_goOn_156  : Nat → Int → SS → OO
  | 0, _, _ => none
  | fu + 1, x2, s0 =>
    if (gi s0 86 7) ≤ x2 then (
      j_Mo_goOn_199 s0)
    else (
      if (iw ((gi s0 86 6) + 8)) ≤ x2 then (
        j_Mo_goOn_199 s0)
      else (
        ob (f_Mo_sign x2 s0) fun r3 s3 =>
        os (sj s3 86 10 (yor (yshl (gj s0 86 10) 8) r3)) fun s4 =>
        (l_Mo_goOn_156 fu) (iw (x2 + 1)) s4))
noncomputable def l_Mo_goOn_119  : Nat → SS → OO
  | 0, _ => none
  | fu + 1, s0 =>
    ob (f_Mo_sign (gi s0 86 7) s0) fun r1 s1 =>
    ob (f_Mo_isLetter r1 s1) fun r2 s2 =>
    if r2 = 0 then (
      os (sj s2 86 10 0) fun s4 =>
      ol (gi s4 86 6) fun x5_ =>
      l_Mo_goOn_156 FU x5_ s4)
    else (
      os (si s2 86 7 (iw ((gi s2 86 7) + 1))) fun s6 =>
      (l_Mo_goOn_119 fu) s6)
noncomputable def j_Mo_goOn_309 (self259 : SS → OO)  (s0 : SS) : OO :=
  os (si s0 86 7 (iw ((gi s0 86 7) + 1))) fun s1 =>
  self259 s1
noncomputable def j_Mo_goOn_355  (z1 : Int) (s0 : SS) : OO :=
  os (si s0 86 8 z1) fun s1 =>
  some (0, s1)
noncomputable def j_Mo_goOn_350   (s0 : SS) : OO :=
  j_Mo_goOn_355 1 s0
noncomputable def l_Mo_goOn_259  : Nat → SS → OO
  | 0, _ => none
  | fu + 1, s0 =>
    ob (f_Mo_sign (gi s0 86 7) s0) fun r1 s1 =>
    ob (f_Mo_isDigit r1 s1) fun r2 s2 =>
    if r2 = 0 then (
      if 4 < (iw ((gi s2 86 7) - (gi s2 86 6))) then (
        j_Mo_goOn_350 s2)
      else (
        ob (f_Mo_sign (gi s2 86 7) s2) fun r5 s5 =>
        ob (f_Mo_isLetter r5 s5) fun r6 s6 =>
        if r6 = 0 then (
          j_Mo_goOn_355 4 s6)
        else (
          j_Mo_goOn_350 s6)))
    else (
      if 4 ≤ (iw ((gi s2 86 7) - (gi s2 86 6))) then (
        j_Mo_goOn_309 (l_Mo_goOn_259 fu) s2)
      else (
        ob (f_Mo_sign (gi s2 86 7) s2) fun r9 s9 =>
        os (si s9 86 9 (iw ((iw ((iw (10 * (gi s2 86 9))) + r9)) - 48))) fun s10 =>
        j_Mo_goOn_309 (l_Mo_goOn_259 fu) s10))
noncomputable def j_Mo_goOn_374  (z1 : Int) (s0 : SS) : OO :=
  os (si s0 86 8 z1) fun s1 =>
  some (0, s1)
noncomputable def j_Mo_goOn_58   (s0 : SS) : OO :=
  ob (f_Mo_sign (gi s0 86 6) s0) fun r1 s1 =>
  os (si s1 86 7 (iw ((gi s1 86 6) + 1))) fun s2 =>
  if (gi s2 86 6) < (gi s2 86 3) then (
    ob (f_Mo_isLetter r1 s2) fun r4 s4 =>
    if r4 = 0 then (
      ob (f_Mo_isDigit r1 s4) fun r6 s6 =>
      if r6 = 0 then (
        ob (f_Mo_isSign r1 s6) fun r8 s8 =>
        if r8 = 0 then (
          j_Mo_goOn_374 1 s8)
        else (
          j_Mo_goOn_374 5 s8))
      else (
        os (si s6 86 9 0) fun s10 =>
        os (si s10 86 7 (gi s10 86 6)) fun s11 =>
        l_Mo_goOn_259 FU s11))
    else (
      l_Mo_goOn_119 FU s4))
  else (
    os (si s2 86 8 0) fun s12 =>
    os (si s12 86 6 (gi s12 86 3)) fun s13 =>
    os (si s13 86 7 (gi s13 86 3)) fun s14 =>
    some (0, s14))
noncomputable def l_Mo_goOn_8  : Nat → SS → OO
  | 0, _ => none
  | fu + 1, s0 =>
    if (gi s0 86 3) ≤ (gi s0 86 6) then (
      j_Mo_goOn_58 s0)
    else (
      ob (f_Mo_sign (gi s0 86 6) s0) fun r2 s2 =>
      if r2 = 32 then (
        j_Mo_goOn_45 (l_Mo_goOn_8 fu) s2)
      else (
        ob (f_Mo_sign (gi s2 86 6) s2) fun r4 s4 =>
        if r4 = 10 then (
          j_Mo_goOn_45 (l_Mo_goOn_8 fu) s4)
        else (
          j_Mo_goOn_58 s4)))
noncomputable def f_Mo_goOn  (s0 : SS) : OO :=
  os (si s0 86 6 (gi s0 86 7)) fun s1 =>
  l_Mo_goOn_8 FU s1
noncomputable def f_Mo_isSignHere (a1 : Int) (s0 : SS) : OO :=
  if (gi s0 86 8) = 5 then (
    ob (f_Mo_sign (gi s0 86 6) s0) fun r2 s2 =>
    if r2 = a1 then (
      some (1, s2))
    else (
      some (0, s2)))
  else (
    some (0, s0))
noncomputable def f_Mo_isWord (a1 : Int) (s0 : SS) : OO :=
  if (gi s0 86 8) = 3 then (
    if (ycmp (gj s0 86 10) a1) = 0 then (
      some (1, s0))
    else (
      some (0, s0)))
  else (
    some (0, s0))
noncomputable def j_Mo_misplaced_14  (z1 : Int) (s0 : SS) : OO :=
  ob (f_Mo_fails z1 (gi s0 86 6) s0) fun r1 s1 =>
  some (0, s1)
noncomputable def f_Mo_misplaced  (s0 : SS) : OO :=
  if (gi s0 86 8) = 1 then (
    j_Mo_misplaced_14 1 s0)
  else (
    j_Mo_misplaced_14 2 s0)
noncomputable def f_Mo_must (a1 : Int) (s0 : SS) : OO :=
  ob (f_Mo_isGood s0) fun r1 s1 =>
  if r1 = 0 then (
    some (0, s1))
  else (
    if a1 = 0 then (
      ob (f_Mo_misplaced s1) fun r4 s4 =>
      some (0, s4))
    else (
      ob (f_Mo_goOn s1) fun r5 s5 =>
      some (0, s5)))
noncomputable def j_Mo_numeral_69  (x1 : Int) (x3 : Int) (s0 : SS) : OO :=
  ob (f_Mo_isGood s0) fun r1 s1 =>
  if r1 = 0 then (
    some (x1, s1))
  else (
    some (x3, s1))
noncomputable def j_Mo_numeral_53  (x1 : Int) (s0 : SS) : OO :=
  ol (gi s0 86 9) fun x1_ =>
  ob (f_Mo_isGood s0) fun r2 s2 =>
  if r2 = 0 then (
    j_Mo_numeral_69 x1 x1_ s2)
  else (
    ob (f_Mo_goOn s2) fun r4 s4 =>
    j_Mo_numeral_69 x1 x1_ s4)
noncomputable def j_Mo_numeral_44  (x1 : Int) (s0 : SS) : OO :=
  ob (f_Mo_fails 4 (gi s0 86 6) s0) fun r1 s1 =>
  j_Mo_numeral_53 x1 s1
noncomputable def j_Mo_numeral_21  (x1 : Int) (x2 : Int) (s0 : SS) : OO :=
  ob (f_Mo_isGood s0) fun r1 s1 =>
  if r1 = 0 then (
    j_Mo_numeral_53 x1 s1)
  else (
    if (gi s1 86 9) < x1 then (
      j_Mo_numeral_44 x1 s1)
    else (
      if (gi s1 86 9) ≤ x2 then (
        j_Mo_numeral_53 x1 s1)
      else (
        j_Mo_numeral_44 x1 s1)))
noncomputable def f_Mo_numeral (a1 : Int) (a2 : Int) (s0 : SS) : OO :=
  ob (f_Mo_isGood s0) fun r1 s1 =>
  if r1 = 0 then (
    some (a1, s1))
  else (
    if (gi s1 86 8) = 4 then (
      j_Mo_numeral_21 a1 a2 s1)
    else (
      ob (f_Mo_misplaced s1) fun r4 s4 =>
      j_Mo_numeral_21 a1 a2 s4))
noncomputable def f_Mo_after (a1 : Int) (a2 : Int) (a3 : Int) (s0 : SS) : OO :=
  ob (f_Mo_isWord a1 s0) fun r1 s1 =>
  ob (f_Mo_must r1 s1) fun r2 s2 =>
  ob (f_Mo_numeral a2 a3 s2) fun r3 s3 =>
  some (r3, s3)
noncomputable def f_Mo_clearBank  (s0 : SS) : OO :=
  oc (0 ≤ gi s0 86 41 ∧ gi s0 86 41 < 2) <|
  os (si s0 89 ((gi s0 86 41).toNat) 0) fun s3 =>
  oc (0 ≤ gi s3 86 41 ∧ gi s3 86 41 < 2) <|
  os (si s3 90 ((gi s3 86 41).toNat) 0) fun s6 =>
  oc (0 ≤ gi s6 86 41 ∧ gi s6 86 41 < 2) <|
  os (si s6 91 ((gi s6 86 41).toNat) 0) fun s9 =>
  oc (0 ≤ gi s9 86 41 ∧ gi s9 86 41 < 2) <|
  os (si s9 92 ((gi s9 86 41).toNat) 0) fun s12 =>
  oc (0 ≤ gi s12 86 41 ∧ gi s12 86 41 < 2) <|
  os (si s12 93 ((gi s12 86 41).toNat) 0) fun s15 =>
  oc (0 ≤ gi s15 86 41 ∧ gi s15 86 41 < 2) <|
  os (si s15 94 ((gi s15 86 41).toNat) 0) fun s18 =>
  oc (0 ≤ gi s18 86 41 ∧ gi s18 86 41 < 2) <|
  os (si s18 108 ((gi s18 86 41).toNat) 0) fun s21 =>
  oc (0 ≤ iw (2 * (gi s21 86 41)) ∧ iw (2 * (gi s21 86 41)) < 4) <|
  os (si s21 109 ((iw (2 * (gi s21 86 41))).toNat) 0) fun s24 =>
  oc (0 ≤ iw ((iw (2 * (gi s24 86 41))) + 1) ∧ iw ((iw (2 * (gi s24 86 41))) + 1) < 4) <|
  os (si s24 109 ((iw ((iw (2 * (gi s24 86 41))) + 1)).toNat) 0) fun s27 =>
  os (si s27 86 42 (iw (560 * (gi s27 86 41)))) fun s28 =>
  some (0, s28)
noncomputable def f_Mo_isFull  (s0 : SS) : OO :=
  ob (f_Mo_isWord 482854658917 s0) fun r1 s1 =>
  if r1 = 0 then (
    ob (f_Mo_isWord 7823737 s1) fun r3 s3 =>
    if r3 = 0 then (
      ob (f_Mo_isWord 1936684396 s3) fun r5 s5 =>
      if r5 = 0 then (
        ob (f_Mo_isWord 120265333040498 s5) fun r7 s7 =>
        if r7 = 0 then (
          ob (f_Mo_isWord 1751474548 s7) fun r9 s9 =>
          if r9 = 0 then (
            ob (f_Mo_isWord 1650549611 s9) fun r11 s11 =>
            if r11 = 0 then (
              ob (f_Mo_isWord 1685217655 s11) fun r13 s13 =>
              if r13 = 0 then (
                some (1, s13))
              else (
                oc (0 ≤ gi s13 86 41 ∧ gi s13 86 41 < 2) <|
                if (gi s13 108 ((gi s13 86 41).toNat)) = 0 then (
                  some (0, s13))
                else (
                  some (1, s13))))
            else (
              oc (0 ≤ iw ((iw (2 * (gi s11 86 41))) + 1) ∧ iw ((iw (2 * (gi s11 86 41))) + 1) < 4) <|
              oc (gi s11 109 ((iw ((iw (2 * (gi s11 86 41))) + 1)).toNat) = 0 ∨ gi s11 109 ((iw ((iw (2 * (gi s11 86 41))) + 1)).toNat) = 1) <|
              some (gi s11 109 ((iw ((iw (2 * (gi s11 86 41))) + 1)).toNat), s11)))
          else (
            oc (0 ≤ iw (2 * (gi s9 86 41)) ∧ iw (2 * (gi s9 86 41)) < 4) <|
            oc (gi s9 109 ((iw (2 * (gi s9 86 41))).toNat) = 0 ∨ gi s9 109 ((iw (2 * (gi s9 86 41))).toNat) = 1) <|
            some (gi s9 109 ((iw (2 * (gi s9 86 41))).toNat), s9)))
        else (
          oc (0 ≤ gi s7 86 41 ∧ gi s7 86 41 < 2) <|
          if (gi s7 92 ((gi s7 86 41).toNat)) = 6 then (
            some (1, s7))
          else (
            some (0, s7))))
      else (
        oc (0 ≤ gi s5 86 41 ∧ gi s5 86 41 < 2) <|
        if (gi s5 91 ((gi s5 86 41).toNat)) = 6 then (
          some (1, s5))
        else (
          some (0, s5))))
    else (
      oc (0 ≤ gi s3 86 41 ∧ gi s3 86 41 < 2) <|
      if (gi s3 90 ((gi s3 86 41).toNat)) = 14 then (
        some (1, s3))
      else (
        some (0, s3))))
  else (
    oc (0 ≤ gi s1 86 41 ∧ gi s1 86 41 < 2) <|
    if (gi s1 89 ((gi s1 86 41).toNat)) = 8 then (
      some (1, s1))
    else (
      some (0, s1)))
noncomputable def l_Mo_here_3 (u1 : Nat) (y2 : Int) (y3 : Int) : Nat → Int → SS → OO
  | 0, _, _ => none
  | fu + 1, x4, s0 =>
    if y3 ≤ x4 then (
      some ((-1), s0))
    else (
      if (gi s0 86 8) = 2 then (
        oc (0 ≤ iw (y2 + x4) ∧ iw (y2 + x4) < ((rN u1 : Nat) : Int)) <|
        if (ycmp (gj s0 u1 ((iw (y2 + x4)).toNat)) (gj s0 86 10)) = 0 then (
          some (x4, s0))
        else (
          (l_Mo_here_3 u1 y2 y3 fu) (iw (x4 + 1)) s0))
      else (
        (l_Mo_here_3 u1 y2 y3 fu) (iw (x4 + 1)) s0))
noncomputable def f_Mo_here (u1 : Nat) (a2 : Int) (a3 : Int) (s0 : SS) : OO :=
  l_Mo_here_3 u1 a2 a3 FU 0 s0
noncomputable def j_Mo_fresh_37   (s0 : SS) : OO :=
  ol (gj s0 86 10) fun x1_ =>
  ob (f_Mo_isGood s0) fun r2 s2 =>
  if r2 = 0 then (
    some (x1_, s2))
  else (
    ob (f_Mo_goOn s2) fun r4 s4 =>
    some (x1_, s4))
noncomputable def f_Mo_fresh (a1 : Int) (s0 : SS) : OO :=
  ob (f_Mo_isGood s0) fun r1 s1 =>
  if r1 = 0 then (
    some (0, s1))
  else (
    if (gi s1 86 8) = 2 then (
      if a1 < 0 then (
        j_Mo_fresh_37 s1)
      else (
        ob (f_Mo_fails 3 (gi s1 86 6) s1) fun r5 s5 =>
        j_Mo_fresh_37 s5))
    else (
      ob (f_Mo_misplaced s1) fun r6 s6 =>
      j_Mo_fresh_37 s6))
noncomputable def j_Mo_readPlace_125  (z1 : Int) (z2 : Int) (s0 : SS) : OO :=
  oc (0 ≤ z1 ∧ z1 < 16) <|
  os (si s0 96 ((z1).toNat) z2) fun s2 =>
  oc (0 ≤ gi s2 86 41 ∧ gi s2 86 41 < 2) <|
  oc (0 ≤ gi s2 86 41 ∧ gi s2 86 41 < 2) <|
  os (si s2 89 ((gi s2 86 41).toNat) (iw ((gi s2 89 ((gi s2 86 41).toNat)) + 1))) fun s6 =>
  some (0, s6)
noncomputable def j_Mo_readPlace_124  (z1 : Int) (s0 : SS) : OO :=
  j_Mo_readPlace_125 z1 0 s0
noncomputable def j_Mo_readPlace_88  (x1 : Int) (z1 : Int) (z2 : Int) (s0 : SS) : OO :=
  oc (0 ≤ z1 ∧ z1 < 16) <|
  os (si s0 95 ((z1).toNat) z2) fun s2 =>
  ob (f_Mo_isGood s2) fun r4 s4 =>
  if r4 = 0 then (
    j_Mo_readPlace_124 x1 s4)
  else (
    ob (f_Mo_isWord 1701013615 s4) fun r6 s6 =>
    if r6 = 0 then (
      j_Mo_readPlace_124 x1 s6)
    else (
      ob (f_Mo_after 1701013615 0 9 s6) fun r8 s8 =>
      j_Mo_readPlace_125 x1 r8 s8))
noncomputable def j_Mo_readPlace_87  (x1 : Int) (z1 : Int) (s0 : SS) : OO :=
  j_Mo_readPlace_88 x1 z1 0 s0
noncomputable def f_Mo_readPlace  (s0 : SS) : OO :=
  oc (0 ≤ gi s0 86 41 ∧ gi s0 86 41 < 2) <|
  ol (iw ((iw (8 * (gi s0 86 41))) + (gi s0 89 ((gi s0 86 41).toNat)))) fun x3_ =>
  oc (0 ≤ gi s0 86 41 ∧ gi s0 86 41 < 2) <|
  ob (f_Mo_here 110 (iw (8 * (gi s0 86 41))) (gi s0 89 ((gi s0 86 41).toNat)) s0) fun r8 s8 =>
  ob (f_Mo_fresh r8 s8) fun r9 s9 =>
  oc (0 ≤ x3_ ∧ x3_ < 16) <|
  os (sj s9 110 ((x3_).toNat) r9) fun s11 =>
  ob (f_Mo_isGood s11) fun r13 s13 =>
  if r13 = 0 then (
    j_Mo_readPlace_87 x3_ x3_ s13)
  else (
    ob (f_Mo_isWord 1667329133 s13) fun r15 s15 =>
    if r15 = 0 then (
      j_Mo_readPlace_87 x3_ x3_ s15)
    else (
      ob (f_Mo_after 1667329133 0 9 s15) fun r17 s17 =>
      j_Mo_readPlace_88 x3_ x3_ r17 s17))
noncomputable def j_Mo_known_62  (x1 : Int) (s0 : SS) : OO :=
  if 0 ≤ x1 then (
    some (x1, s0))
  else (
    some (0, s0))
noncomputable def f_Mo_known  (s0 : SS) : OO :=
  ob (f_Mo_isGood s0) fun r1 s1 =>
  if r1 = 0 then (
    some (0, s1))
  else (
    oc (0 ≤ gi s1 86 41 ∧ gi s1 86 41 < 2) <|
    ob (f_Mo_here 110 (iw (8 * (gi s1 86 41))) (gi s1 89 ((gi s1 86 41).toNat)) s1) fun r6 s6 =>
    if (gi s6 86 8) = 2 then (
      if 0 ≤ r6 then (
        j_Mo_known_62 r6 s6)
      else (
        ob (f_Mo_fails 5 (gi s6 86 6) s6) fun r9 s9 =>
        j_Mo_known_62 r6 s9))
    else (
      ob (f_Mo_misplaced s6) fun r10 s10 =>
      j_Mo_known_62 r6 s10))
noncomputable def j_Mo_signedNumber_66  (z0 : Int) (s0 : SS) : OO :=
  ob (f_Mo_isGood s0) fun r1 s1 =>
  if r1 = 0 then (
    some (z0, s1))
  else (
    ob (f_Mo_goOn s1) fun r3 s3 =>
    some (z0, s3))
noncomputable def j_Mo_signedNumber_50  (x2 : Int) (s0 : SS) : OO :=
  if x2 = 0 then (
    j_Mo_signedNumber_66 (gi s0 86 9) s0)
  else (
    j_Mo_signedNumber_66 (iw (-(gi s0 86 9))) s0)
noncomputable def j_Mo_signedNumber_20  (x1 : Int) (x2 : Int) (s0 : SS) : OO :=
  if (gi s0 86 8) = 4 then (
    if (gi s0 86 9) ≤ 9 then (
      j_Mo_signedNumber_50 x2 s0)
    else (
      ob (f_Mo_fails 4 x1 s0) fun r3 s3 =>
      j_Mo_signedNumber_50 x2 s3))
  else (
    ob (f_Mo_misplaced s0) fun r4 s4 =>
    j_Mo_signedNumber_50 x2 s4)
noncomputable def f_Mo_signedNumber  (s0 : SS) : OO :=
  ol (gi s0 86 6) fun x1_ =>
  ob (f_Mo_isSignHere 45 s0) fun r2 s2 =>
  if r2 = 0 then (
    j_Mo_signedNumber_20 x1_ r2 s2)
  else (
    ob (f_Mo_goOn s2) fun r4 s4 =>
    j_Mo_signedNumber_20 x1_ r2 s4)
noncomputable def j_Mo_readWay_153   (s0 : SS) : OO :=
  oc (0 ≤ gi s0 86 41 ∧ gi s0 86 41 < 2) <|
  oc (0 ≤ gi s0 86 41 ∧ gi s0 86 41 < 2) <|
  os (si s0 90 ((gi s0 86 41).toNat) (iw ((gi s0 90 ((gi s0 86 41).toNat)) + 1))) fun s4 =>
  some (0, s4)
noncomputable def j_Mo_readWay_102  (x1 : Int) (s0 : SS) : OO :=
  ob (f_Mo_numeral 1 40 s0) fun r2 s2 =>
  oc (0 ≤ x1 ∧ x1 < 28) <|
  os (si s2 99 ((x1).toNat) r2) fun s4 =>
  oc (0 ≤ x1 ∧ x1 < 28) <|
  os (si s4 100 ((x1).toNat) 0) fun s7 =>
  ob (f_Mo_isGood s7) fun r8 s8 =>
  if r8 = 0 then (
    j_Mo_readWay_153 s8)
  else (
    ob (f_Mo_isWord 495689623668 s8) fun r10 s10 =>
    if r10 = 0 then (
      j_Mo_readWay_153 s10)
    else (
      ob (f_Mo_goOn s10) fun r12 s12 =>
      ob (f_Mo_signedNumber s12) fun r14 s14 =>
      oc (0 ≤ x1 ∧ x1 < 28) <|
      os (si s14 100 ((x1).toNat) r14) fun s16 =>
      j_Mo_readWay_153 s16))
noncomputable def j_Mo_readWay_91  (x1 : Int) (s0 : SS) : OO :=
  ob (f_Mo_isGood s0) fun r1 s1 =>
  if r1 = 0 then (
    j_Mo_readWay_102 x1 s1)
  else (
    ob (f_Mo_goOn s1) fun r3 s3 =>
    j_Mo_readWay_102 x1 s3)
noncomputable def j_Mo_readWay_39  (x1 : Int) (s0 : SS) : OO :=
  ob (f_Mo_isWord 29807 s0) fun r1 s1 =>
  ob (f_Mo_must r1 s1) fun r2 s2 =>
  ob (f_Mo_known s2) fun r4 s4 =>
  oc (0 ≤ x1 ∧ x1 < 28) <|
  os (si s4 98 ((x1).toNat) r4) fun s6 =>
  ob (f_Mo_isGood s6) fun r7 s7 =>
  if r7 = 0 then (
    j_Mo_readWay_91 x1 s7)
  else (
    oc (0 ≤ x1 ∧ x1 < 28) <|
    oc (0 ≤ x1 ∧ x1 < 28) <|
    if (gi s7 98 ((x1).toNat)) = (gi s7 97 ((x1).toNat)) then (
      ob (f_Mo_fails 3 (gi s7 86 6) s7) fun r14 s14 =>
      j_Mo_readWay_91 x1 s14)
    else (
      j_Mo_readWay_91 x1 s7))
noncomputable def f_Mo_readWay  (s0 : SS) : OO :=
  oc (0 ≤ gi s0 86 41 ∧ gi s0 86 41 < 2) <|
  ol (iw ((iw (14 * (gi s0 86 41))) + (gi s0 90 ((gi s0 86 41).toNat)))) fun x3_ =>
  ob (f_Mo_known s0) fun r5 s5 =>
  oc (0 ≤ x3_ ∧ x3_ < 28) <|
  os (si s5 97 ((x3_).toNat) r5) fun s7 =>
  ob (f_Mo_isGood s7) fun r8 s8 =>
  if r8 = 0 then (
    j_Mo_readWay_39 x3_ s8)
  else (
    ob (f_Mo_goOn s8) fun r10 s10 =>
    j_Mo_readWay_39 x3_ s10)
noncomputable def f_Mo_readSoul  (s0 : SS) : OO :=
  oc (0 ≤ gi s0 86 41 ∧ gi s0 86 41 < 2) <|
  ol (iw ((iw (6 * (gi s0 86 41))) + (gi s0 91 ((gi s0 86 41).toNat)))) fun x3_ =>
  oc (0 ≤ gi s0 86 41 ∧ gi s0 86 41 < 2) <|
  ob (f_Mo_here 111 (iw (6 * (gi s0 86 41))) (gi s0 91 ((gi s0 86 41).toNat)) s0) fun r8 s8 =>
  ob (f_Mo_fresh r8 s8) fun r9 s9 =>
  oc (0 ≤ x3_ ∧ x3_ < 12) <|
  os (sj s9 111 ((x3_).toNat) r9) fun s11 =>
  ob (f_Mo_after 8319403477078864494 0 9 s11) fun r13 s13 =>
  oc (0 ≤ x3_ ∧ x3_ < 12) <|
  os (si s13 101 ((x3_).toNat) r13) fun s15 =>
  ob (f_Mo_after 495673373300 0 9 s15) fun r17 s17 =>
  oc (0 ≤ x3_ ∧ x3_ < 12) <|
  os (si s17 102 ((x3_).toNat) r17) fun s19 =>
  oc (0 ≤ gi s19 86 41 ∧ gi s19 86 41 < 2) <|
  oc (0 ≤ gi s19 86 41 ∧ gi s19 86 41 < 2) <|
  os (si s19 91 ((gi s19 86 41).toNat) (iw ((gi s19 91 ((gi s19 86 41).toNat)) + 1))) fun s23 =>
  some (0, s23)
noncomputable def j_Mo_readMatter_154 (self86 : SS → OO) (x1 : Int) (z1 : Int) (z2 : Int) (s0 : SS) : OO :=
  ob (f_Mo_numeral 1 9 s0) fun r1 s1 =>
  oc (0 ≤ iw (z1 + z2) ∧ iw (z1 + z2) < 96) <|
  os (si s1 105 ((iw (z1 + z2)).toNat) r1) fun s3 =>
  oc (0 ≤ x1 ∧ x1 < 12) <|
  oc (0 ≤ x1 ∧ x1 < 12) <|
  os (si s3 104 ((x1).toNat) (iw ((gi s3 104 ((x1).toNat)) + 1))) fun s7 =>
  self86 s7
noncomputable def j_Mo_readMatter_125 (self86 : SS → OO) (x1 : Int) (s0 : SS) : OO :=
  oc (0 ≤ x1 ∧ x1 < 12) <|
  if 8 ≤ (gi s0 104 ((x1).toNat)) then (
    j_Mo_readMatter_154 self86 x1 (iw (8 * x1)) 0 s0)
  else (
    oc (0 ≤ x1 ∧ x1 < 12) <|
    j_Mo_readMatter_154 self86 x1 (iw (8 * x1)) (gi s0 104 ((x1).toNat)) s0)
noncomputable def j_Mo_readMatter_110 (self86 : SS → OO) (x1 : Int) (s0 : SS) : OO :=
  oc (0 ≤ x1 ∧ x1 < 12) <|
  if (gi s0 104 ((x1).toNat)) = 8 then (
    ob (f_Mo_misplaced s0) fun r4 s4 =>
    j_Mo_readMatter_125 self86 x1 s4)
  else (
    j_Mo_readMatter_125 self86 x1 s0)
noncomputable def j_Mo_readMatter_176   (s0 : SS) : OO :=
  oc (0 ≤ gi s0 86 41 ∧ gi s0 86 41 < 2) <|
  oc (0 ≤ gi s0 86 41 ∧ gi s0 86 41 < 2) <|
  os (si s0 92 ((gi s0 86 41).toNat) (iw ((gi s0 92 ((gi s0 86 41).toNat)) + 1))) fun s4 =>
  some (0, s4)
noncomputable def l_Mo_readMatter_86 (y1 : Int) : Nat → SS → OO
  | 0, _ => none
  | fu + 1, s0 =>
    ob (f_Mo_isGood s0) fun r1 s1 =>
    if r1 = 0 then (
      j_Mo_readMatter_176 s1)
    else (
      oc (0 ≤ y1 ∧ y1 < 12) <|
      if (gi s1 104 ((y1).toNat)) = 0 then (
        j_Mo_readMatter_110 (l_Mo_readMatter_86 y1 fu) y1 s1)
      else (
        if (gi s1 86 8) = 4 then (
          j_Mo_readMatter_110 (l_Mo_readMatter_86 y1 fu) y1 s1)
        else (
          j_Mo_readMatter_176 s1)))
noncomputable def f_Mo_readMatter  (s0 : SS) : OO :=
  oc (0 ≤ gi s0 86 41 ∧ gi s0 86 41 < 2) <|
  ol (iw ((iw (6 * (gi s0 86 41))) + (gi s0 92 ((gi s0 86 41).toNat)))) fun x3_ =>
  oc (0 ≤ gi s0 86 41 ∧ gi s0 86 41 < 2) <|
  ob (f_Mo_here 112 (iw (6 * (gi s0 86 41))) (gi s0 92 ((gi s0 86 41).toNat)) s0) fun r8 s8 =>
  ob (f_Mo_fresh r8 s8) fun r9 s9 =>
  oc (0 ≤ x3_ ∧ x3_ < 12) <|
  os (sj s9 112 ((x3_).toNat) r9) fun s11 =>
  ob (f_Mo_after 422877228659 1 99 s11) fun r13 s13 =>
  oc (0 ≤ x3_ ∧ x3_ < 12) <|
  os (si s13 103 ((x3_).toNat) r13) fun s15 =>
  ob (f_Mo_isWord 28518 s15) fun r16 s16 =>
  ob (f_Mo_must r16 s16) fun r17 s17 =>
  oc (0 ≤ x3_ ∧ x3_ < 12) <|
  os (si s17 104 ((x3_).toNat) 0) fun s20 =>
  l_Mo_readMatter_86 x3_ FU s20
noncomputable def f_Mo_pushE (a1 : Int) (a2 : Int) (s0 : SS) : OO :=
  oc (0 ≤ gi s0 86 44 ∧ gi s0 86 44 < 90) <|
  os (si s0 115 ((gi s0 86 44).toNat) a1) fun s3 =>
  oc (0 ≤ gi s3 86 44 ∧ gi s3 86 44 < 90) <|
  os (si s3 116 ((gi s3 86 44).toNat) a2) fun s6 =>
  os (si s6 86 44 (iw ((gi s6 86 44) + 1))) fun s7 =>
  some (0, s7)
noncomputable def f_Mo_wordHere  (s0 : SS) : OO :=
  ob (f_Mo_isWord 1751474548 s0) fun r1 s1 =>
  if r1 = 0 then (
    ob (f_Mo_isWord 444301141350 s1) fun r3 s3 =>
    if r3 = 0 then (
      ob (f_Mo_isWord 8319403477078864494 s3) fun r5 s5 =>
      if r5 = 0 then (
        ob (f_Mo_isWord 495673373300 s5) fun r7 s7 =>
        if r7 = 0 then (
          ob (f_Mo_isWord 1835625573 s7) fun r9 s9 =>
          if r9 = 0 then (
            ob (f_Mo_isWord 1818584692 s9) fun r11 s11 =>
            if r11 = 0 then (
              some (0, s11))
            else (
              some (108, s11)))
          else (
            some (109, s9)))
        else (
          some (98, s7)))
      else (
        some (115, s5)))
    else (
      some (103, s3)))
  else (
    some (104, s1))
noncomputable def f_Mo_emit (a1 : Int) (a2 : Int) (s0 : SS) : OO :=
  oc (0 ≤ gi s0 86 42 ∧ gi s0 86 42 < 1120) <|
  os (si s0 113 ((gi s0 86 42).toNat) a1) fun s3 =>
  oc (0 ≤ gi s3 86 42 ∧ gi s3 86 42 < 1120) <|
  os (si s3 114 ((gi s3 86 42).toNat) a2) fun s6 =>
  os (si s6 86 42 (iw ((gi s6 86 42) + 1))) fun s7 =>
  some (0, s7)
noncomputable def j_Mo_unit_233  (z1 : Int) (s0 : SS) : OO :=
  ob (f_Mo_pushE z1 126 s0) fun r1 s1 =>
  os (si s1 86 43 (iw ((gi s1 86 43) + 1))) fun s2 =>
  some (1, s2)
noncomputable def j_Mo_unit_222  (x2 : Int) (s0 : SS) : OO :=
  if x2 = 0 then (
    j_Mo_unit_233 7 s0)
  else (
    j_Mo_unit_233 3 s0)
noncomputable def j_Mo_unit_263  (x6 : Int) (z1 : Int) (s0 : SS) : OO :=
  ob (f_Mo_emit z1 x6 s0) fun r1 s1 =>
  some (0, s1)
noncomputable def j_Mo_unit_208  (x2 : Int) (x3 : Int) (x4 : Int) (z0 : Int) (s0 : SS) : OO :=
  ob (f_Mo_goOn s0) fun r1 s1 =>
  if x2 = 0 then (
    if x3 = 0 then (
      if x4 = 0 then (
        j_Mo_unit_263 z0 110 s1)
      else (
        j_Mo_unit_263 z0 x4 s1))
    else (
      j_Mo_unit_222 x2 s1))
  else (
    j_Mo_unit_222 x2 s1)
noncomputable def j_Mo_unit_191  (x2 : Int) (x3 : Int) (x4 : Int) (z1 : Int) (z2 : Int) (s0 : SS) : OO :=
  os (si s0 86 45 (iw (z1 + z2))) fun s1 =>
  if x4 = 0 then (
    j_Mo_unit_208 x2 x3 x4 (gi s1 86 9) s1)
  else (
    j_Mo_unit_208 x2 x3 x4 0 s1)
noncomputable def j_Mo_unit_175  (x2 : Int) (x3 : Int) (x4 : Int) (z1 : Int) (z2 : Int) (z3 : Int) (s0 : SS) : OO :=
  oc (0 ≤ z1 ∧ z1 < 2) <|
  os (si s0 93 ((z1).toNat) (iw (z2 + z3))) fun s2 =>
  if x2 = 0 then (
    j_Mo_unit_191 x2 x3 x4 (gi s2 86 45) 1 s2)
  else (
    j_Mo_unit_191 x2 x3 x4 (gi s2 86 45) 0 s2)
noncomputable def j_Mo_unit_147  (x2 : Int) (x3 : Int) (x4 : Int) (s0 : SS) : OO :=
  ob (f_Mo_isGood s0) fun r1 s1 =>
  if r1 = 0 then (
    some (1, s1))
  else (
    oc (0 ≤ gi s1 86 41 ∧ gi s1 86 41 < 2) <|
    if x2 = 0 then (
      j_Mo_unit_175 x2 x3 x4 (gi s1 86 41) (gi s1 93 ((gi s1 86 41).toNat)) 1 s1)
    else (
      j_Mo_unit_175 x2 x3 x4 (gi s1 86 41) (gi s1 93 ((gi s1 86 41).toNat)) 0 s1))
noncomputable def j_Mo_unit_143  (x2 : Int) (x3 : Int) (x4 : Int) (s0 : SS) : OO :=
  ob (f_Mo_misplaced s0) fun r1 s1 =>
  j_Mo_unit_147 x2 x3 x4 s1
noncomputable def j_Mo_unit_134  (x2 : Int) (x3 : Int) (x4 : Int) (s0 : SS) : OO :=
  if (gi s0 86 43) = 7 then (
    j_Mo_unit_143 x2 x3 x4 s0)
  else (
    j_Mo_unit_147 x2 x3 x4 s0)
noncomputable def j_Mo_unit_126  (x2 : Int) (x3 : Int) (x4 : Int) (s0 : SS) : OO :=
  if x2 = 0 then (
    if x3 = 0 then (
      j_Mo_unit_147 x2 x3 x4 s0)
    else (
      j_Mo_unit_134 x2 x3 x4 s0))
  else (
    j_Mo_unit_134 x2 x3 x4 s0)
noncomputable def j_Mo_unit_121  (x2 : Int) (x3 : Int) (x4 : Int) (x5 : Int) (s0 : SS) : OO :=
  if x5 = 0 then (
    j_Mo_unit_126 x2 x3 x4 s0)
  else (
    j_Mo_unit_143 x2 x3 x4 s0)
noncomputable def j_Mo_unit_98  (x2 : Int) (x3 : Int) (x4 : Int) (z0 : Int) (s0 : SS) : OO :=
  if x2 = 0 then (
    if x4 = 0 then (
      if (gi s0 86 8) = 4 then (
        j_Mo_unit_121 x2 x3 x4 z0 s0)
      else (
        if x3 = 0 then (
          j_Mo_unit_143 x2 x3 x4 s0)
        else (
          j_Mo_unit_121 x2 x3 x4 z0 s0)))
    else (
      j_Mo_unit_121 x2 x3 x4 z0 s0))
  else (
    j_Mo_unit_126 x2 x3 x4 s0)
noncomputable def j_Mo_unit_93  (x2 : Int) (x3 : Int) (x4 : Int) (s0 : SS) : OO :=
  j_Mo_unit_98 x2 x3 x4 1 s0
noncomputable def j_Mo_unit_56  (z0 : Int) (s0 : SS) : OO :=
  ob (f_Mo_isSignHere 40 s0) fun r1 s1 =>
  ob (f_Mo_wordHere s1) fun r2 s2 =>
  oc (0 ≤ gi s2 86 41 ∧ gi s2 86 41 < 2) <|
  if (gi s2 93 ((gi s2 86 41).toNat)) = 60 then (
    j_Mo_unit_93 z0 r1 r2 s2)
  else (
    if (gi s2 86 45) = 30 then (
      j_Mo_unit_93 z0 r1 r2 s2)
    else (
      j_Mo_unit_98 z0 r1 r2 0 s2))
noncomputable def j_Mo_unit_55   (s0 : SS) : OO :=
  j_Mo_unit_56 0 s0
noncomputable def j_Mo_unit_36  (z0 : Int) (s0 : SS) : OO :=
  if z0 = 0 then (
    j_Mo_unit_55 s0)
  else (
    ob (f_Mo_isWord 7237492 s0) fun r2 s2 =>
    if r2 = 0 then (
      j_Mo_unit_55 s2)
    else (
      j_Mo_unit_56 1 s2))
noncomputable def j_Mo_unit_31   (s0 : SS) : OO :=
  j_Mo_unit_36 1 s0
noncomputable def f_Mo_unit  (s0 : SS) : OO :=
  oc (0 ≤ iw ((gi s0 86 44) - 1) ∧ iw ((gi s0 86 44) - 1) < 90) <|
  if (gi s0 115 ((iw ((gi s0 86 44) - 1)).toNat)) ≤ 3 then (
    j_Mo_unit_31 s0)
  else (
    oc (0 ≤ iw ((gi s0 86 44) - 1) ∧ iw ((gi s0 86 44) - 1) < 90) <|
    if (gi s0 115 ((iw ((gi s0 86 44) - 1)).toNat)) < 7 then (
      j_Mo_unit_36 0 s0)
    else (
      j_Mo_unit_31 s0))
noncomputable def f_Mo_rankHere  (s0 : SS) : OO :=
  ob (f_Mo_isWord 6385252 s0) fun r1 s1 =>
  if r1 = 0 then (
    ob (f_Mo_isWord 28530 s1) fun r3 s3 =>
    if r3 = 0 then (
      ob (f_Mo_isSignHere 60 s3) fun r5 s5 =>
      if r5 = 0 then (
        ob (f_Mo_isSignHere 62 s5) fun r7 s7 =>
        if r7 = 0 then (
          ob (f_Mo_isSignHere 61 s7) fun r9 s9 =>
          if r9 = 0 then (
            ob (f_Mo_isSignHere 43 s9) fun r11 s11 =>
            if r11 = 0 then (
              ob (f_Mo_isSignHere 45 s11) fun r13 s13 =>
              if r13 = 0 then (
                ob (f_Mo_isSignHere 42 s13) fun r15 s15 =>
                if r15 = 0 then (
                  ob (f_Mo_isSignHere 47 s15) fun r17 s17 =>
                  if r17 = 0 then (
                    ob (f_Mo_isSignHere 37 s17) fun r19 s19 =>
                    if r19 = 0 then (
                      some (0, s19))
                    else (
                      some (6, s19)))
                  else (
                    some (6, s17)))
                else (
                  some (6, s15)))
              else (
                some (5, s13)))
            else (
              some (5, s11)))
          else (
            some (4, s9)))
        else (
          some (4, s7)))
      else (
        some (4, s5)))
    else (
      some (1, s3)))
  else (
    some (2, s1))
noncomputable def l_Mo_isCompared_7  : Nat → Int → SS → OO
  | 0, _, _ => none
  | fu + 1, x1, s0 =>
    oc (0 ≤ x1 ∧ x1 < 90) <|
    if (gi s0 115 ((x1).toNat)) = 5 then (
      (l_Mo_isCompared_7 fu) (iw (x1 + (-1))) s0)
    else (
      oc (0 ≤ x1 ∧ x1 < 90) <|
      if (gi s0 115 ((x1).toNat)) = 6 then (
        (l_Mo_isCompared_7 fu) (iw (x1 + (-1))) s0)
      else (
        oc (0 ≤ x1 ∧ x1 < 90) <|
        if (gi s0 115 ((x1).toNat)) = 4 then (
          some (1, s0))
        else (
          some (0, s0))))
noncomputable def f_Mo_isCompared  (s0 : SS) : OO :=
  ol (iw ((gi s0 86 44) - 1)) fun x1_ =>
  l_Mo_isCompared_7 FU x1_ s0
noncomputable def j_Mo_behindUnit_87 (self23 : SS → OO) (x1 : Int) (s0 : SS) : OO :=
  oc (0 ≤ gi s0 86 44 ∧ gi s0 86 44 < 90) <|
  ob (f_Mo_emit (gi s0 116 ((gi s0 86 44).toNat)) 0 s0) fun r3 s3 =>
  self23 s3
noncomputable def j_Mo_behindUnit_138  (z1 : Int) (z2 : Int) (s0 : SS) : OO :=
  ob (f_Mo_pushE z1 z2 s0) fun r1 s1 =>
  ob (f_Mo_goOn s1) fun r2 s2 =>
  some (1, s2)
noncomputable def j_Mo_behindUnit_104  (x1 : Int) (s0 : SS) : OO :=
  if x1 ≤ 0 then (
    os (si s0 86 44 (iw ((gi s0 86 44) - 1))) fun s2 =>
    oc (0 ≤ gi s2 86 44 ∧ gi s2 86 44 < 90) <|
    if (gi s2 115 ((gi s2 86 44).toNat)) = 7 then (
      os (si s2 86 43 (iw ((gi s2 86 43) - 1))) fun s6 =>
      ob (f_Mo_isSignHere 41 s6) fun r7 s7 =>
      ob (f_Mo_must r7 s7) fun r8 s8 =>
      some (0, s8))
    else (
      some (0, s2)))
  else (
    if x1 = 2 then (
      j_Mo_behindUnit_138 x1 38 s0)
    else (
      if x1 = 1 then (
        j_Mo_behindUnit_138 x1 124 s0)
      else (
        ob (f_Mo_sign (gi s0 86 6) s0) fun r11 s11 =>
        j_Mo_behindUnit_138 x1 r11 s11)))
noncomputable def l_Mo_behindUnit_23 (y1 : Int) : Nat → SS → OO
  | 0, _ => none
  | fu + 1, s0 =>
    oc (0 ≤ iw ((gi s0 86 44) - 1) ∧ iw ((gi s0 86 44) - 1) < 90) <|
    if 6 < (gi s0 115 ((iw ((gi s0 86 44) - 1)).toNat)) then (
      j_Mo_behindUnit_104 y1 s0)
    else (
      oc (0 ≤ iw ((gi s0 86 44) - 1) ∧ iw ((gi s0 86 44) - 1) < 90) <|
      if (gi s0 115 ((iw ((gi s0 86 44) - 1)).toNat)) < y1 then (
        j_Mo_behindUnit_104 y1 s0)
      else (
        os (si s0 86 44 (iw ((gi s0 86 44) - 1))) fun s7 =>
        oc (0 ≤ gi s7 86 44 ∧ gi s7 86 44 < 90) <|
        if (gi s7 115 ((gi s7 86 44).toNat)) = 3 then (
          os (si s7 86 43 (iw ((gi s7 86 43) - 1))) fun s11 =>
          j_Mo_behindUnit_87 (l_Mo_behindUnit_23 y1 fu) y1 s11)
        else (
          j_Mo_behindUnit_87 (l_Mo_behindUnit_23 y1 fu) y1 s7)))
noncomputable def f_Mo_behindUnit  (s0 : SS) : OO :=
  ob (f_Mo_rankHere s0) fun r1 s1 =>
  if r1 = 4 then (
    ob (f_Mo_isCompared s1) fun r3 s3 =>
    if r3 = 0 then (
      l_Mo_behindUnit_23 r1 FU s3)
    else (
      ob (f_Mo_misplaced s3) fun r5 s5 =>
      some (1, s5)))
  else (
    l_Mo_behindUnit_23 r1 FU s1)
noncomputable def l_Mo_e_19  : Nat → Int → SS → OO
  | 0, _, _ => none
  | fu + 1, x1, s0 =>
    ob (f_Mo_isGood s0) fun r1 s1 =>
    if r1 = 0 then (
      some (0, s1))
    else (
      if (gi s1 86 44) ≤ 0 then (
        some (0, s1))
      else (
        if x1 = 0 then (
          ob (f_Mo_behindUnit s1) fun r5 s5 =>
          (l_Mo_e_19 fu) r5 s5)
        else (
          ob (f_Mo_unit s1) fun r6 s6 =>
          (l_Mo_e_19 fu) r6 s6)))
noncomputable def f_Mo_e  (s0 : SS) : OO :=
  os (si s0 86 44 0) fun s1 =>
  os (si s1 86 43 0) fun s2 =>
  ob (f_Mo_pushE 8 0 s2) fun r3 s3 =>
  l_Mo_e_19 FU 1 s3
noncomputable def f_Mo_readRule (a1 : Int) (s0 : SS) : OO :=
  os (si s0 86 45 0) fun s1 =>
  oc (0 ≤ iw ((iw (2 * (gi s1 86 41))) + a1) ∧ iw ((iw (2 * (gi s1 86 41))) + a1) < 4) <|
  os (si s1 109 ((iw ((iw (2 * (gi s1 86 41))) + a1)).toNat) 1) fun s4 =>
  oc (0 ≤ iw ((iw (2 * (gi s4 86 41))) + a1) ∧ iw ((iw (2 * (gi s4 86 41))) + a1) < 4) <|
  os (si s4 106 ((iw ((iw (2 * (gi s4 86 41))) + a1)).toNat) (gi s4 86 42)) fun s7 =>
  ob (f_Mo_e s7) fun r8 s8 =>
  oc (0 ≤ iw ((iw (2 * (gi s8 86 41))) + a1) ∧ iw ((iw (2 * (gi s8 86 41))) + a1) < 4) <|
  os (si s8 107 ((iw ((iw (2 * (gi s8 86 41))) + a1)).toNat) (gi s8 86 42)) fun s11 =>
  some (0, s11)
noncomputable def j_Mo_readLine_145   (s0 : SS) : OO :=
  ob (f_Mo_isSignHere 59 s0) fun r1 s1 =>
  ob (f_Mo_must r1 s1) fun r2 s2 =>
  some (0, s2)
noncomputable def j_Mo_readLine_110  (x1 : Int) (s0 : SS) : OO :=
  if (ycmp x1 1685217655) = 0 then (
    oc (0 ≤ gi s0 86 41 ∧ gi s0 86 41 < 2) <|
    os (si s0 108 ((gi s0 86 41).toNat) 1) fun s4 =>
    ob (f_Mo_numeral 0 999 s4) fun r6 s6 =>
    oc (0 ≤ gi s4 86 41 ∧ gi s4 86 41 < 2) <|
    os (si s6 94 ((gi s4 86 41).toNat) r6) fun s8 =>
    j_Mo_readLine_145 s8)
  else (
    j_Mo_readLine_145 s0)
noncomputable def j_Mo_readLine_97  (x1 : Int) (s0 : SS) : OO :=
  if (ycmp x1 1650549611) = 0 then (
    ob (f_Mo_readRule 1 s0) fun r2 s2 =>
    j_Mo_readLine_110 x1 s2)
  else (
    j_Mo_readLine_110 x1 s0)
noncomputable def j_Mo_readLine_84  (x1 : Int) (s0 : SS) : OO :=
  if (ycmp x1 1751474548) = 0 then (
    ob (f_Mo_readRule 0 s0) fun r2 s2 =>
    j_Mo_readLine_97 x1 s2)
  else (
    j_Mo_readLine_97 x1 s0)
noncomputable def j_Mo_readLine_72  (x1 : Int) (s0 : SS) : OO :=
  if (ycmp x1 120265333040498) = 0 then (
    ob (f_Mo_readMatter s0) fun r2 s2 =>
    j_Mo_readLine_84 x1 s2)
  else (
    j_Mo_readLine_84 x1 s0)
noncomputable def j_Mo_readLine_60  (x1 : Int) (s0 : SS) : OO :=
  if (ycmp x1 1936684396) = 0 then (
    ob (f_Mo_readSoul s0) fun r2 s2 =>
    j_Mo_readLine_72 x1 s2)
  else (
    j_Mo_readLine_72 x1 s0)
noncomputable def j_Mo_readLine_48  (x1 : Int) (s0 : SS) : OO :=
  if (ycmp x1 7823737) = 0 then (
    ob (f_Mo_readWay s0) fun r2 s2 =>
    j_Mo_readLine_60 x1 s2)
  else (
    j_Mo_readLine_60 x1 s0)
noncomputable def j_Mo_readLine_24  (x1 : Int) (s0 : SS) : OO :=
  ob (f_Mo_isGood s0) fun r1 s1 =>
  if r1 = 0 then (
    some (0, s1))
  else (
    ob (f_Mo_goOn s1) fun r3 s3 =>
    if (ycmp x1 482854658917) = 0 then (
      ob (f_Mo_readPlace s3) fun r5 s5 =>
      j_Mo_readLine_48 x1 s5)
    else (
      j_Mo_readLine_48 x1 s3))
noncomputable def j_Mo_readLine_20  (x1 : Int) (s0 : SS) : OO :=
  ob (f_Mo_misplaced s0) fun r1 s1 =>
  j_Mo_readLine_24 x1 s1
noncomputable def f_Mo_readLine  (s0 : SS) : OO :=
  ol (gj s0 86 10) fun x1_ =>
  if (gi s0 86 8) = 3 then (
    ob (f_Mo_isFull s0) fun r3 s3 =>
    if r3 = 0 then (
      j_Mo_readLine_24 x1_ s3)
    else (
      j_Mo_readLine_20 x1_ s3))
  else (
    j_Mo_readLine_20 x1_ s0)
noncomputable def f_Mo_soulMany  (s0 : SS) : OO :=
  oc (0 ≤ gi s0 86 40 ∧ gi s0 86 40 < 2) <|
  some (gi s0 91 ((gi s0 86 40).toNat), s0)
noncomputable def l_Mo_startAnew_150  : Nat → Int → SS → OO
  | 0, _, _ => none
  | fu + 1, x1, s0 =>
    if 3 ≤ x1 then (
      some (0, s0))
    else (
      oc (0 ≤ x1 ∧ x1 < 3) <|
      os (si s0 137 ((x1).toNat) 0) fun s4 =>
      (l_Mo_startAnew_150 fu) (iw (x1 + 1)) s4)
noncomputable def l_Mo_startAnew_38  : Nat → Int → SS → OO
  | 0, _, _ => none
  | fu + 1, x1, s0 =>
    ob (f_Mo_soulMany s0) fun r1 s1 =>
    if r1 ≤ x1 then (
      os (si s1 118 13 (-1)) fun s4 =>
      os (si s4 118 17 (-1)) fun s6 =>
      os (si s6 86 56 0) fun s7 =>
      os (si s7 86 57 0) fun s8 =>
      os (si s8 86 60 (-1)) fun s9 =>
      os (si s9 86 61 0) fun s10 =>
      os (si s10 86 79 0) fun s11 =>
      os (si s11 86 62 0) fun s12 =>
      l_Mo_startAnew_150 FU 0 s12)
    else (
      oc (0 ≤ iw ((iw (6 * (gi s1 86 40))) + x1) ∧ iw ((iw (6 * (gi s1 86 40))) + x1) < 12) <|
      oc (0 ≤ iw (1 + (iw (2 * x1))) ∧ iw (1 + (iw (2 * x1))) < 44) <|
      os (si s1 118 ((iw (1 + (iw (2 * x1)))).toNat) (gi s1 101 ((iw ((iw (6 * (gi s1 86 40))) + x1)).toNat))) fun s17 =>
      oc (0 ≤ iw ((iw (6 * (gi s17 86 40))) + x1) ∧ iw ((iw (6 * (gi s17 86 40))) + x1) < 12) <|
      oc (0 ≤ iw ((iw (1 + (iw (2 * x1)))) + 1) ∧ iw ((iw (1 + (iw (2 * x1)))) + 1) < 44) <|
      os (si s17 118 ((iw ((iw (1 + (iw (2 * x1)))) + 1)).toNat) (gi s17 102 ((iw ((iw (6 * (gi s17 86 40))) + x1)).toNat))) fun s22 =>
      (l_Mo_startAnew_38 fu) (iw (x1 + 1)) s22)
noncomputable def l_Mo_startAnew_2  : Nat → Int → SS → OO
  | 0, _, _ => none
  | fu + 1, x1, s0 =>
    if 44 ≤ x1 then (
      oc (0 ≤ gi s0 86 40 ∧ gi s0 86 40 < 2) <|
      os (si s0 118 0 (gi s0 94 ((gi s0 86 40).toNat))) fun s5 =>
      l_Mo_startAnew_38 FU 0 s5)
    else (
      oc (0 ≤ x1 ∧ x1 < 44) <|
      os (si s0 118 ((x1).toNat) 0) fun s8 =>
      (l_Mo_startAnew_2 fu) (iw (x1 + 1)) s8)
noncomputable def f_Mo_startAnew  (s0 : SS) : OO :=
  l_Mo_startAnew_2 FU 0 s0
noncomputable def j_Mo_land_95   (s0 : SS) : OO :=
  ob (f_Mo_isGood s0) fun r1 s1 =>
  if r1 = 0 then (
    some ((-1), s1))
  else (
    os (si s1 86 40 (gi s1 86 41)) fun s3 =>
    ob (f_Mo_startAnew s3) fun r4 s4 =>
    oc (0 ≤ gi s4 86 40 ∧ gi s4 86 40 < 2) <|
    some (gi s4 89 ((gi s4 86 40).toNat), s4))
noncomputable def l_Mo_land_74  : Nat → SS → OO
  | 0, _ => none
  | fu + 1, s0 =>
    ob (f_Mo_isGood s0) fun r1 s1 =>
    if r1 = 0 then (
      j_Mo_land_95 s1)
    else (
      if (gi s1 86 8) = 0 then (
        j_Mo_land_95 s1)
      else (
        ob (f_Mo_readLine s1) fun r4 s4 =>
        (l_Mo_land_74 fu) s4))
noncomputable def l_Mo_land_20  : Nat → Int → SS → OO
  | 0, _, _ => none
  | fu + 1, x1, s0 =>
    if (gi s0 86 3) ≤ x1 then (
      os (si s0 86 2 0) fun s2 =>
      os (si s2 86 7 0) fun s3 =>
      os (si s3 86 41 (iw (1 - (gi s3 86 40)))) fun s4 =>
      ob (f_Mo_clearBank s4) fun r5 s5 =>
      ob (f_Mo_goOn s5) fun r6 s6 =>
      l_Mo_land_74 FU s6)
    else (
      oc (0 ≤ x1 ∧ x1 < 1620) <|
      oc (0 ≤ x1 ∧ x1 < 1600) <|
      os (si s0 88 ((x1).toNat) (zi2b (gi s0 87 ((x1).toNat)))) fun s11 =>
      (l_Mo_land_20 fu) (iw (x1 + 1)) s11)
noncomputable def f_Mo_land  (s0 : SS) : OO :=
  os (si s0 86 4 0) fun s1 =>
  os (si s1 86 5 (-1)) fun s2 =>
  os (si s2 86 3 (gi s2 86 2)) fun s3 =>
  l_Mo_land_20 FU 0 s3
noncomputable def f_Mo_two (a1 : Int) (a2 : Int) (a3 : Int) (s0 : SS) : OO :=
  if a1 = 37 then (
    if a3 = 0 then (
      some (0, s0))
    else (
      oc (¬ a3 = 0) <|
      some (Int.tmod a2 a3, s0)))
  else   if a1 = 38 then (
      if a2 = 0 then (
        some (0, s0))
      else (
        if a3 = 0 then (
          some (0, s0))
        else (
          some (1, s0))))
  else   if a1 = 42 then (
        some (iw (a2 * a3), s0))
  else   if a1 = 43 then (
          some (iw (a2 + a3), s0))
  else   if a1 = 45 then (
            some (iw (a2 - a3), s0))
  else   if a1 = 47 then (
              if a3 = 0 then (
                some (0, s0))
              else (
                oc (¬ a3 = 0) <|
                some (iw (Int.tdiv a2 a3), s0)))
  else   if a1 = 60 then (
                if a3 ≤ a2 then (
                  some (0, s0))
                else (
                  some (1, s0)))
  else   if a1 = 61 then (
                  if a2 = a3 then (
                    some (1, s0))
                  else (
                    some (0, s0)))
  else   if a1 = 62 then (
                    if a2 ≤ a3 then (
                      some (0, s0))
                    else (
                      some (1, s0)))
  else (
                    if a2 = 0 then (
                      if a3 = 0 then (
                        some (0, s0))
                      else (
                        some (1, s0)))
                    else (
                      some (1, s0)))
noncomputable def f_Mo_asked (a1 : Int) (a2 : Int) (s0 : SS) : OO :=
  if a1 = 98 then (
    some (gi s0 86 49, s0))
  else   if a1 = 103 then (
      some (gi s0 86 47, s0))
  else   if a1 = 104 then (
        some (gi s0 86 46, s0))
  else   if a1 = 108 then (
          some (gi s0 86 51, s0))
  else   if a1 = 109 then (
            some (gi s0 86 50, s0))
  else   if a1 = 115 then (
              some (gi s0 86 48, s0))
  else (
              some (a2, s0))
noncomputable def j_Mo_comes_71 (self16 : Int → Int → SS → OO) (x1 : Int) (x2 : Int) (x3 : Int) (z1 : Int) (z2 : Int) (s0 : SS) : OO :=
  oc (0 ≤ z1 ∧ z1 < 60) <|
  os (si s0 117 ((z1).toNat) z2) fun s2 =>
  self16 x2 (iw (x3 + 1)) s2
noncomputable def l_Mo_comes_16 (y1 : Int) : Nat → Int → Int → SS → OO
  | 0, _, _, _ => none
  | fu + 1, x2, x3, s0 =>
    oc (0 ≤ iw ((iw (2 * (gi s0 86 40))) + y1) ∧ iw ((iw (2 * (gi s0 86 40))) + y1) < 4) <|
    if (gi s0 107 ((iw ((iw (2 * (gi s0 86 40))) + y1)).toNat)) ≤ x3 then (
      some (gi s0 117 0, s0))
    else (
      oc (0 ≤ x3 ∧ x3 < 1120) <|
      ol (gi s0 113 ((x3).toNat)) fun x7_ =>
      if x7_ = 126 then (
        oc (0 ≤ iw (x2 - 1) ∧ iw (x2 - 1) < 60) <|
        if (gi s0 117 ((iw (x2 - 1)).toNat)) = 0 then (
          j_Mo_comes_71 (l_Mo_comes_16 y1 fu) y1 x2 x3 (iw (x2 - 1)) 1 s0)
        else (
          j_Mo_comes_71 (l_Mo_comes_16 y1 fu) y1 x2 x3 (iw (x2 - 1)) 0 s0))
      else (
        ob (f_Mo_isLetter x7_ s0) fun r9 s9 =>
        if r9 = 0 then (
          oc (0 ≤ iw ((iw (x2 + (-1))) - 1) ∧ iw ((iw (x2 + (-1))) - 1) < 60) <|
          oc (0 ≤ iw (x2 + (-1)) ∧ iw (x2 + (-1)) < 60) <|
          ob (f_Mo_two x7_ (gi s9 117 ((iw ((iw (x2 + (-1))) - 1)).toNat)) (gi s9 117 ((iw (x2 + (-1))).toNat)) s9) fun r16 s16 =>
          oc (0 ≤ iw ((iw (x2 + (-1))) - 1) ∧ iw ((iw (x2 + (-1))) - 1) < 60) <|
          os (si s16 117 ((iw ((iw (x2 + (-1))) - 1)).toNat) r16) fun s18 =>
          (l_Mo_comes_16 y1 fu) (iw (x2 + (-1))) (iw (x3 + 1)) s18)
        else (
          oc (0 ≤ x3 ∧ x3 < 1120) <|
          ob (f_Mo_asked x7_ (gi s9 114 ((x3).toNat)) s9) fun r22 s22 =>
          oc (0 ≤ x2 ∧ x2 < 60) <|
          os (si s22 117 ((x2).toNat) r22) fun s24 =>
          (l_Mo_comes_16 y1 fu) (iw (x2 + 1)) (iw (x3 + 1)) s24)))
noncomputable def f_Mo_comes (a1 : Int) (s0 : SS) : OO :=
  oc (0 ≤ iw ((iw (2 * (gi s0 86 40))) + a1) ∧ iw ((iw (2 * (gi s0 86 40))) + a1) < 4) <|
  ol (gi s0 106 ((iw ((iw (2 * (gi s0 86 40))) + a1)).toNat)) fun x3_ =>
  l_Mo_comes_16 a1 FU 0 x3_ s0
noncomputable def f_Mo_fault (a1 : Int) (s0 : SS) : OO :=
  if a1 = 0 then (
    some (gi s0 86 4, s0))
  else (
    if a1 = 1 then (
      some (gi s0 86 5, s0))
    else (
      some ((-1), s0)))
noncomputable def f_Mo_isIn (a1 : Int) (a2 : Int) (a3 : Int) (s0 : SS) : OO :=
  if a1 < a2 then (
    some (0, s0))
  else (
    if a3 < a1 then (
      some (0, s0))
    else (
      some (1, s0)))
noncomputable def f_Mo_isPlace (a1 : Int) (s0 : SS) : OO :=
  oc (0 ≤ gi s0 86 40 ∧ gi s0 86 40 < 2) <|
  ob (f_Mo_isIn a1 0 (iw ((gi s0 89 ((gi s0 86 40).toNat)) - 1)) s0) fun r3 s3 =>
  some (r3, s3)
noncomputable def f_Mo_isWay (a1 : Int) (s0 : SS) : OO :=
  oc (0 ≤ gi s0 86 40 ∧ gi s0 86 40 < 2) <|
  ob (f_Mo_isIn a1 0 (iw ((gi s0 90 ((gi s0 86 40).toNat)) - 1)) s0) fun r3 s3 =>
  some (r3, s3)
noncomputable def f_Mo_isCouple (a1 : Int) (a2 : Int) (a3 : Int) (s0 : SS) : OO :=
  ob (f_Mo_soulMany s0) fun r1 s1 =>
  ob (f_Mo_isIn a1 0 (iw (r1 - 1)) s1) fun r2 s2 =>
  if r2 = 0 then (
    some (0, s2))
  else (
    ob (f_Mo_soulMany s2) fun r4 s4 =>
    ob (f_Mo_isIn a2 0 (iw (r4 - 1)) s4) fun r5 s5 =>
    if r5 = 0 then (
      some (0, s5))
    else (
      if a1 = a2 then (
        some (0, s5))
      else (
        oc (0 ≤ gi s5 86 40 ∧ gi s5 86 40 < 2) <|
        ob (f_Mo_isIn a3 0 (iw ((gi s5 92 ((gi s5 86 40).toNat)) - 1)) s5) fun r10 s10 =>
        if r10 = 0 then (
          some (0, s10))
        else (
          some (1, s10)))))
noncomputable def f_Mo_temperOf (a1 : Int) (a2 : Int) (s0 : SS) : OO :=
  if (gi s0 86 54) = 0 then (
    oc (0 ≤ iw ((iw (1 + (iw (2 * a1)))) + a2) ∧ iw ((iw (1 + (iw (2 * a1)))) + a2) < 44) <|
    some (gi s0 118 ((iw ((iw (1 + (iw (2 * a1)))) + a2)).toNat), s0))
  else (
    if a2 = 0 then (
      oc (0 ≤ iw ((iw (6 * (gi s0 86 40))) + a1) ∧ iw ((iw (6 * (gi s0 86 40))) + a1) < 12) <|
      some (gi s0 101 ((iw ((iw (6 * (gi s0 86 40))) + a1)).toNat), s0))
    else (
      oc (0 ≤ iw ((iw (6 * (gi s0 86 40))) + a1) ∧ iw ((iw (6 * (gi s0 86 40))) + a1) < 12) <|
      some (gi s0 102 ((iw ((iw (6 * (gi s0 86 40))) + a1)).toNat), s0)))
noncomputable def l_Mo_begin_58 (u1 : Nat) (y5 : Int) : Nat → Int → SS → OO
  | 0, _, _ => none
  | fu + 1, x6, s0 =>
    oc (0 ≤ y5 ∧ y5 < 12) <|
    if (gi s0 104 ((y5).toNat)) ≤ x6 then (
      some (0, s0))
    else (
      oc (0 ≤ iw ((iw (8 * y5)) + x6) ∧ iw ((iw (8 * y5)) + x6) < 96) <|
      oc (0 ≤ iw (22 + x6) ∧ iw (22 + x6) < ((rN u1 : Nat) : Int)) <|
      os (si s0 u1 ((iw (22 + x6)).toNat) (gi s0 105 ((iw ((iw (8 * y5)) + x6)).toNat))) fun s7 =>
      (l_Mo_begin_58 u1 y5 fu) (iw (x6 + 1)) s7)
noncomputable def f_Mo_begin (u1 : Nat) (a2 : Int) (a3 : Int) (a4 : Int) (s0 : SS) : OO :=
  ol (iw ((iw (6 * (gi s0 86 40))) + a4)) fun x1_ =>
  oc (0 ≤ (13 : Int) ∧ (13 : Int) < ((rN u1 : Nat) : Int)) <|
  os (si s0 u1 13 a2) fun s3 =>
  oc (0 ≤ (14 : Int) ∧ (14 : Int) < ((rN u1 : Nat) : Int)) <|
  os (si s3 u1 14 a3) fun s5 =>
  oc (0 ≤ (15 : Int) ∧ (15 : Int) < ((rN u1 : Nat) : Int)) <|
  os (si s5 u1 15 a4) fun s7 =>
  oc (0 ≤ (19 : Int) ∧ (19 : Int) < ((rN u1 : Nat) : Int)) <|
  os (si s7 u1 19 0) fun s9 =>
  oc (0 ≤ x1_ ∧ x1_ < 12) <|
  oc (0 ≤ (20 : Int) ∧ (20 : Int) < ((rN u1 : Nat) : Int)) <|
  os (si s9 u1 20 (gi s9 103 ((x1_).toNat))) fun s13 =>
  oc (0 ≤ x1_ ∧ x1_ < 12) <|
  oc (0 ≤ (21 : Int) ∧ (21 : Int) < ((rN u1 : Nat) : Int)) <|
  os (si s13 u1 21 (gi s13 104 ((x1_).toNat))) fun s17 =>
  l_Mo_begin_58 u1 x1_ FU 0 s17
noncomputable def f_Mo_isEnded (u1 : Nat) (s0 : SS) : OO :=
  oc (0 ≤ (20 : Int) ∧ (20 : Int) < ((rN u1 : Nat) : Int)) <|
  if (gi s0 u1 20) = 0 then (
    some (1, s0))
  else (
    oc (0 ≤ (21 : Int) ∧ (21 : Int) < ((rN u1 : Nat) : Int)) <|
    if (gi s0 u1 21) = 0 then (
      some (1, s0))
    else (
      some (0, s0)))
noncomputable def f_Mo_warm (a1 : Int) (s0 : SS) : OO :=
  if 0 ≤ a1 then (
    if a1 ≤ 99 then (
      some (a1, s0))
    else (
      some (99, s0)))
  else (
    some (0, s0))
noncomputable def f_Mo_push (u1 : Nat) (a2 : Int) (s0 : SS) : OO :=
  oc (0 ≤ (21 : Int) ∧ (21 : Int) < ((rN u1 : Nat) : Int)) <|
  oc (0 ≤ iw (22 + (gi s0 u1 21)) ∧ iw (22 + (gi s0 u1 21)) < ((rN u1 : Nat) : Int)) <|
  os (si s0 u1 ((iw (22 + (gi s0 u1 21))).toNat) a2) fun s3 =>
  oc (0 ≤ (21 : Int) ∧ (21 : Int) < ((rN u1 : Nat) : Int)) <|
  oc (0 ≤ (21 : Int) ∧ (21 : Int) < ((rN u1 : Nat) : Int)) <|
  os (si s3 u1 21 (iw ((gi s3 u1 21) + 1))) fun s6 =>
  some (0, s6)
noncomputable def j_Mo_say_216 (u1 : Nat) (x3 : Int) (s0 : SS) : OO :=
  if 0 ≤ x3 then (
    oc (0 ≤ (20 : Int) ∧ (20 : Int) < ((rN u1 : Nat) : Int)) <|
    oc (0 ≤ iw ((iw (8 * (gi s0 86 40))) + x3) ∧ iw ((iw (8 * (gi s0 86 40))) + x3) < 16) <|
    ob (f_Mo_warm (iw ((gi s0 u1 20) - (gi s0 95 ((iw ((iw (8 * (gi s0 86 40))) + x3)).toNat)))) s0) fun r5 s5 =>
    oc (0 ≤ (20 : Int) ∧ (20 : Int) < ((rN u1 : Nat) : Int)) <|
    os (si s5 u1 20 r5) fun s7 =>
    oc (0 ≤ iw ((iw (8 * (gi s7 86 40))) + x3) ∧ iw ((iw (8 * (gi s7 86 40))) + x3) < 16) <|
    if (gi s7 96 ((iw ((iw (8 * (gi s7 86 40))) + x3)).toNat)) ≤ 0 then (
      some (0, s7))
    else (
      oc (0 ≤ (21 : Int) ∧ (21 : Int) < ((rN u1 : Nat) : Int)) <|
      if 20 ≤ (gi s7 u1 21) then (
        some (0, s7))
      else (
        oc (0 ≤ iw ((iw (8 * (gi s7 86 40))) + x3) ∧ iw ((iw (8 * (gi s7 86 40))) + x3) < 16) <|
        ob (f_Mo_push u1 (gi s7 96 ((iw ((iw (8 * (gi s7 86 40))) + x3)).toNat)) s7) fun r15 s15 =>
        some (0, s15))))
  else (
    some (0, s0))
noncomputable def j_Mo_say_186 (u1 : Nat) (x2 : Int) (x3 : Int) (s0 : SS) : OO :=
  if x2 < 0 then (
    j_Mo_say_216 u1 x3 s0)
  else (
    oc (0 ≤ (20 : Int) ∧ (20 : Int) < ((rN u1 : Nat) : Int)) <|
    oc (0 ≤ iw ((iw (14 * (gi s0 86 40))) + x2) ∧ iw ((iw (14 * (gi s0 86 40))) + x2) < 28) <|
    ob (f_Mo_warm (iw ((gi s0 u1 20) + (gi s0 100 ((iw ((iw (14 * (gi s0 86 40))) + x2)).toNat)))) s0) fun r5 s5 =>
    oc (0 ≤ (20 : Int) ∧ (20 : Int) < ((rN u1 : Nat) : Int)) <|
    os (si s5 u1 20 r5) fun s7 =>
    j_Mo_say_216 u1 x3 s7)
noncomputable def j_Mo_say_183 (u1 : Nat) (x2 : Int) (x3 : Int) (z1 : Int) (s0 : SS) : OO :=
  ob (f_Mo_push u1 z1 s0) fun r1 s1 =>
  j_Mo_say_186 u1 x2 x3 s1
noncomputable def j_Mo_say_152 (u1 : Nat) (x2 : Int) (x3 : Int) (x5 : Int) (z0 : Int) (s0 : SS) : OO :=
  ob (f_Mo_warm x5 s0) fun r1 s1 =>
  oc (0 ≤ (20 : Int) ∧ (20 : Int) < ((rN u1 : Nat) : Int)) <|
  os (si s1 u1 20 r1) fun s3 =>
  if z0 ≤ 0 then (
    j_Mo_say_186 u1 x2 x3 s3)
  else (
    if z0 ≤ 9 then (
      j_Mo_say_183 u1 x2 x3 z0 s3)
    else (
      j_Mo_say_183 u1 x2 x3 9 s3))
noncomputable def j_Mo_say_125 (u1 : Nat) (x2 : Int) (x3 : Int) (z0 : Int) (s0 : SS) : OO :=
  oc (0 ≤ iw ((iw (2 * (gi s0 86 40))) + 1) ∧ iw ((iw (2 * (gi s0 86 40))) + 1) < 4) <|
  if (gi s0 109 ((iw ((iw (2 * (gi s0 86 40))) + 1)).toNat)) = 0 then (
    j_Mo_say_152 u1 x2 x3 z0 0 s0)
  else (
    ob (f_Mo_comes 1 s0) fun r4 s4 =>
    j_Mo_say_152 u1 x2 x3 z0 r4 s4)
noncomputable def j_Mo_say_20 (u1 : Nat) (x2 : Int) (x3 : Int) (z0 : Int) (s0 : SS) : OO :=
  oc (0 ≤ (19 : Int) ∧ (19 : Int) < ((rN u1 : Nat) : Int)) <|
  oc (0 ≤ (19 : Int) ∧ (19 : Int) < ((rN u1 : Nat) : Int)) <|
  os (si s0 u1 19 (iw ((gi s0 u1 19) + 1))) fun s3 =>
  oc (0 ≤ (21 : Int) ∧ (21 : Int) < ((rN u1 : Nat) : Int)) <|
  oc (0 ≤ (21 : Int) ∧ (21 : Int) < ((rN u1 : Nat) : Int)) <|
  os (si s3 u1 21 (iw ((gi s3 u1 21) - 1))) fun s6 =>
  oc (0 ≤ (20 : Int) ∧ (20 : Int) < ((rN u1 : Nat) : Int)) <|
  os (si s6 86 46 (gi s6 u1 20)) fun s8 =>
  oc (0 ≤ (21 : Int) ∧ (21 : Int) < ((rN u1 : Nat) : Int)) <|
  oc (0 ≤ iw (22 + (gi s8 u1 21)) ∧ iw (22 + (gi s8 u1 21)) < ((rN u1 : Nat) : Int)) <|
  os (si s8 86 47 (gi s8 u1 ((iw (22 + (gi s8 u1 21))).toNat))) fun s11 =>
  ob (f_Mo_temperOf z0 0 s11) fun r12 s12 =>
  os (si s12 86 48 r12) fun s13 =>
  ob (f_Mo_temperOf z0 1 s13) fun r14 s14 =>
  os (si s14 86 49 r14) fun s15 =>
  oc (0 ≤ (19 : Int) ∧ (19 : Int) < ((rN u1 : Nat) : Int)) <|
  os (si s15 86 50 (gi s15 u1 19)) fun s17 =>
  oc (0 ≤ (21 : Int) ∧ (21 : Int) < ((rN u1 : Nat) : Int)) <|
  os (si s17 86 51 (gi s17 u1 21)) fun s19 =>
  oc (0 ≤ iw (2 * (gi s19 86 40)) ∧ iw (2 * (gi s19 86 40)) < 4) <|
  if (gi s19 109 ((iw (2 * (gi s19 86 40))).toNat)) = 0 then (
    j_Mo_say_125 u1 x2 x3 (iw ((gi s19 86 46) - 1)) s19)
  else (
    ob (f_Mo_comes 0 s19) fun r23 s23 =>
    j_Mo_say_125 u1 x2 x3 r23 s23)
noncomputable def f_Mo_say (u1 : Nat) (a2 : Int) (a3 : Int) (s0 : SS) : OO :=
  oc (0 ≤ (19 : Int) ∧ (19 : Int) < ((rN u1 : Nat) : Int)) <|
  if (Int.tmod (gi s0 u1 19) 2) = 0 then (
    oc (0 ≤ (13 : Int) ∧ (13 : Int) < ((rN u1 : Nat) : Int)) <|
    j_Mo_say_20 u1 a2 a3 (gi s0 u1 13) s0)
  else (
    oc (0 ≤ (14 : Int) ∧ (14 : Int) < ((rN u1 : Nat) : Int)) <|
    j_Mo_say_20 u1 a2 a3 (gi s0 u1 14) s0)
noncomputable def l_Mo_openLength_11  : Nat → SS → OO
  | 0, _ => none
  | fu + 1, s0 =>
    if 200 ≤ (gi s0 119 19) then (
      some ((-1), s0))
    else (
      ob (f_Mo_say 119 (-1) (-1) s0) fun r4 s4 =>
      ob (f_Mo_isEnded 119 s4) fun r6 s6 =>
      if r6 = 0 then (
        (l_Mo_openLength_11 fu) s6)
      else (
        some (gi s6 119 19, s6)))
noncomputable def f_Mo_openLength (a1 : Int) (a2 : Int) (a3 : Int) (s0 : SS) : OO :=
  ob (f_Mo_begin 119 a1 a2 a3 s0) fun r2 s2 =>
  l_Mo_openLength_11 FU s2
noncomputable def f_Mo_quarrel (a1 : Int) (a2 : Int) (a3 : Int) (s0 : SS) : OO :=
  ob (f_Mo_isCouple a1 a2 a3 s0) fun r1 s1 =>
  if r1 = 0 then (
    some ((-2), s1))
  else (
    ob (f_Mo_openLength a1 a2 a3 s1) fun r3 s3 =>
    some (r3, s3))
noncomputable def j_Mo_heat_71   (s0 : SS) : OO :=
  some (gi s0 119 20, s0)
noncomputable def l_Mo_heat_36 (y4 : Int) : Nat → SS → OO
  | 0, _ => none
  | fu + 1, s0 =>
    if y4 ≤ (gi s0 119 19) then (
      j_Mo_heat_71 s0)
    else (
      ob (f_Mo_isEnded 119 s0) fun r4 s4 =>
      if r4 = 0 then (
        ob (f_Mo_say 119 (-1) (-1) s4) fun r7 s7 =>
        (l_Mo_heat_36 y4 fu) s7)
      else (
        j_Mo_heat_71 s4))
noncomputable def f_Mo_heat (a1 : Int) (a2 : Int) (a3 : Int) (a4 : Int) (s0 : SS) : OO :=
  ob (f_Mo_isCouple a1 a2 a3 s0) fun r1 s1 =>
  if r1 = 0 then (
    some ((-2), s1))
  else (
    ob (f_Mo_isIn a4 0 200 s1) fun r3 s3 =>
    if r3 = 0 then (
      some ((-2), s3))
    else (
      ob (f_Mo_begin 119 a1 a2 a3 s3) fun r6 s6 =>
      l_Mo_heat_36 a4 FU s6))
noncomputable def f_Mo_soul (a1 : Int) (a2 : Int) (s0 : SS) : OO :=
  ob (f_Mo_soulMany s0) fun r1 s1 =>
  ob (f_Mo_isIn a1 0 (iw (r1 - 1)) s1) fun r2 s2 =>
  if r2 = 0 then (
    some ((-1), s2))
  else (
    ob (f_Mo_isIn a2 0 1 s2) fun r4 s4 =>
    if r4 = 0 then (
      some ((-1), s4))
    else (
      oc (0 ≤ iw ((iw (1 + (iw (2 * a1)))) + a2) ∧ iw ((iw (1 + (iw (2 * a1)))) + a2) < 44) <|
      some (gi s4 118 ((iw ((iw (1 + (iw (2 * a1)))) + a2)).toNat), s4)))
noncomputable def f_Mo_fromOf (a1 : Int) (s0 : SS) : OO :=
  oc (0 ≤ iw ((iw (14 * (gi s0 86 40))) + a1) ∧ iw ((iw (14 * (gi s0 86 40))) + a1) < 28) <|
  some (gi s0 97 ((iw ((iw (14 * (gi s0 86 40))) + a1)).toNat), s0)
noncomputable def f_Mo_toOf (a1 : Int) (s0 : SS) : OO :=
  oc (0 ≤ iw ((iw (14 * (gi s0 86 40))) + a1) ∧ iw ((iw (14 * (gi s0 86 40))) + a1) < 28) <|
  some (gi s0 98 ((iw ((iw (14 * (gi s0 86 40))) + a1)).toNat), s0)
noncomputable def f_Mo_milesOf (a1 : Int) (s0 : SS) : OO :=
  oc (0 ≤ iw ((iw (14 * (gi s0 86 40))) + a1) ∧ iw ((iw (14 * (gi s0 86 40))) + a1) < 28) <|
  some (gi s0 99 ((iw ((iw (14 * (gi s0 86 40))) + a1)).toNat), s0)
noncomputable def f_Mo_way (a1 : Int) (a2 : Int) (s0 : SS) : OO :=
  ob (f_Mo_isWay a1 s0) fun r1 s1 =>
  if r1 = 0 then (
    some ((-1), s1))
  else (
    if a2 = 0 then (
      ob (f_Mo_fromOf a1 s1) fun r8 s8 =>
      some (r8, s8))
    else (
      if a2 = 1 then (
        ob (f_Mo_toOf a1 s1) fun r7 s7 =>
        some (r7, s7))
      else (
        if a2 = 2 then (
          ob (f_Mo_milesOf a1 s1) fun r6 s6 =>
          some (r6, s6))
        else (
          some ((-1), s1)))))
noncomputable def f_Mo_otherEnd (a1 : Int) (a2 : Int) (s0 : SS) : OO :=
  ob (f_Mo_fromOf a1 s0) fun r1 s1 =>
  if r1 = a2 then (
    ob (f_Mo_toOf a1 s1) fun r6 s6 =>
    some (r6, s6))
  else (
    ob (f_Mo_toOf a1 s1) fun r3 s3 =>
    if r3 = a2 then (
      ob (f_Mo_fromOf a1 s3) fun r5 s5 =>
      some (r5, s5))
    else (
      some ((-1), s3)))
noncomputable def l_Mo_keepAct_51  : Nat → Int → SS → OO
  | 0, _, _ => none
  | fu + 1, x1, s0 =>
    if 44 ≤ x1 then (
      os (si s0 86 56 (iw ((gi s0 86 56) + 1))) fun s2 =>
      os (si s2 86 57 0) fun s3 =>
      some (0, s3))
    else (
      oc (0 ≤ x1 ∧ x1 < 44) <|
      oc (0 ≤ iw ((iw (44 * (gi s0 86 56))) + x1) ∧ iw ((iw (44 * (gi s0 86 56))) + x1) < 1804) <|
      os (si s0 120 ((iw ((iw (44 * (gi s0 86 56))) + x1)).toNat) (gi s0 118 ((x1).toNat))) fun s8 =>
      (l_Mo_keepAct_51 fu) (iw (x1 + 1)) s8)
noncomputable def l_Mo_keepAct_11  : Nat → Int → SS → OO
  | 0, _, _ => none
  | fu + 1, x1, s0 =>
    if 1760 ≤ x1 then (
      os (si s0 86 56 (iw ((gi s0 86 56) - 1))) fun s2 =>
      l_Mo_keepAct_51 FU 0 s2)
    else (
      oc (0 ≤ iw (x1 + 44) ∧ iw (x1 + 44) < 1804) <|
      oc (0 ≤ x1 ∧ x1 < 1804) <|
      os (si s0 120 ((x1).toNat) (gi s0 120 ((iw (x1 + 44)).toNat))) fun s7 =>
      (l_Mo_keepAct_11 fu) (iw (x1 + 1)) s7)
noncomputable def f_Mo_keepAct  (s0 : SS) : OO :=
  if (gi s0 86 56) = 40 then (
    l_Mo_keepAct_11 FU 0 s0)
  else (
    l_Mo_keepAct_51 FU 0 s0)
noncomputable def l_Mo_exchange_2  : Nat → Int → SS → OO
  | 0, _, _ => none
  | fu + 1, x1, s0 =>
    if 44 ≤ x1 then (
      some (0, s0))
    else (
      oc (0 ≤ iw ((iw (44 * (gi s0 86 56))) + x1) ∧ iw ((iw (44 * (gi s0 86 56))) + x1) < 1804) <|
      ol (gi s0 120 ((iw ((iw (44 * (gi s0 86 56))) + x1)).toNat)) fun x4_ =>
      oc (0 ≤ x1 ∧ x1 < 44) <|
      oc (0 ≤ iw ((iw (44 * (gi s0 86 56))) + x1) ∧ iw ((iw (44 * (gi s0 86 56))) + x1) < 1804) <|
      os (si s0 120 ((iw ((iw (44 * (gi s0 86 56))) + x1)).toNat) (gi s0 118 ((x1).toNat))) fun s9 =>
      oc (0 ≤ x1 ∧ x1 < 44) <|
      os (si s9 118 ((x1).toNat) x4_) fun s12 =>
      (l_Mo_exchange_2 fu) (iw (x1 + 1)) s12)
noncomputable def f_Mo_exchange  (s0 : SS) : OO :=
  l_Mo_exchange_2 FU 0 s0
noncomputable def f_Mo_doWalk  (s0 : SS) : OO :=
  if (gi s0 118 13) < 0 then (
    some (0, s0))
  else (
    some (1, s0))
noncomputable def f_Mo_setOut (a1 : Int) (a2 : Int) (a3 : Int) (a4 : Int) (s0 : SS) : OO :=
  ob (f_Mo_isCouple a1 a2 a3 s0) fun r1 s1 =>
  if r1 = 0 then (
    some ((-1), s1))
  else (
    ob (f_Mo_isPlace a4 s1) fun r3 s3 =>
    if r3 = 0 then (
      some ((-1), s3))
    else (
      ob (f_Mo_keepAct s3) fun r5 s5 =>
      ob (f_Mo_begin 118 a1 a2 a3 s5) fun r7 s7 =>
      os (si s7 118 16 a4) fun s9 =>
      os (si s9 118 17 (-1)) fun s11 =>
      os (si s11 118 18 0) fun s13 =>
      some (1, s13)))
noncomputable def f_Mo_take (a1 : Int) (s0 : SS) : OO :=
  ob (f_Mo_doWalk s0) fun r1 s1 =>
  if r1 = 0 then (
    some ((-1), s1))
  else (
    ob (f_Mo_isWay a1 s1) fun r3 s3 =>
    if r3 = 0 then (
      some ((-1), s3))
    else (
      if 0 ≤ (gi s3 118 17) then (
        some ((-1), s3))
      else (
        ob (f_Mo_isEnded 118 s3) fun r8 s8 =>
        if r8 = 0 then (
          ob (f_Mo_otherEnd a1 (gi s8 118 16) s8) fun r11 s11 =>
          if 0 ≤ r11 then (
            ob (f_Mo_keepAct s11) fun r13 s13 =>
            os (si s13 118 17 a1) fun s15 =>
            os (si s15 118 18 0) fun s17 =>
            ob (f_Mo_milesOf a1 s17) fun r18 s18 =>
            some (r18, s18))
          else (
            some ((-1), s11)))
        else (
          some ((-1), s8)))))
noncomputable def j_Mo_words_122 (self25 : Int → SS → OO) (x1 : Int) (x2 : Int) (x4 : Int) (x5 : Int) (z2 : Int) (z3 : Int) (s0 : SS) : OO :=
  ob (f_Mo_say 118 z2 z3 s0) fun r1 s1 =>
  if x4 = 0 then (
    self25 (iw (x2 + 1)) s1)
  else (
    os (si s1 118 16 x5) fun s4 =>
    os (si s4 118 17 (-1)) fun s6 =>
    os (si s6 118 18 0) fun s8 =>
    self25 (iw (x2 + 1)) s8)
noncomputable def j_Mo_words_89 (self25 : Int → SS → OO) (x1 : Int) (x2 : Int) (x3 : Int) (z0 : Int) (s0 : SS) : OO :=
  ob (f_Mo_otherEnd x3 (gi s0 118 16) s0) fun r2 s2 =>
  if z0 = 0 then (
    j_Mo_words_122 self25 x1 x2 z0 r2 x3 (-1) s2)
  else (
    j_Mo_words_122 self25 x1 x2 z0 r2 x3 r2 s2)
noncomputable def l_Mo_words_25 (y1 : Int) : Nat → Int → SS → OO
  | 0, _, _ => none
  | fu + 1, x2, s0 =>
    if y1 ≤ x2 then (
      some (x2, s0))
    else (
      if (gi s0 118 17) < 0 then (
        some (x2, s0))
      else (
        ob (f_Mo_isEnded 118 s0) fun r5 s5 =>
        if r5 = 0 then (
          ol (gi s5 118 17) fun x8_ =>
          os (si s5 118 18 (iw ((gi s5 118 18) + 1))) fun s10 =>
          ob (f_Mo_milesOf x8_ s10) fun r12 s12 =>
          if (gi s10 118 18) = r12 then (
            j_Mo_words_89 (l_Mo_words_25 y1 fu) y1 x2 x8_ 1 s12)
          else (
            j_Mo_words_89 (l_Mo_words_25 y1 fu) y1 x2 x8_ 0 s12))
        else (
          some (x2, s5))))
noncomputable def f_Mo_words (a1 : Int) (s0 : SS) : OO :=
  ob (f_Mo_isIn a1 0 60 s0) fun r1 s1 =>
  if r1 = 0 then (
    some ((-1), s1))
  else (
    ob (f_Mo_doWalk s1) fun r3 s3 =>
    if r3 = 0 then (
      some ((-1), s3))
    else (
      ob (f_Mo_keepAct s3) fun r5 s5 =>
      l_Mo_words_25 a1 FU 0 s5))
noncomputable def f_Mo_year  (s0 : SS) : OO :=
  ob (f_Mo_soulMany s0) fun r1 s1 =>
  if r1 = 0 then (
    some ((-1), s1))
  else (
    ob (f_Mo_keepAct s1) fun r3 s3 =>
    os (si s3 118 0 (Int.tmod (iw ((iw (137 * (gi s3 118 0))) + 71)) 1000)) fun s6 =>
    ob (f_Mo_soulMany s6) fun r8 s8 =>
    oc (¬ r8 = 0) <|
    ol (Int.tmod (gi s6 118 0) r8) fun x10_ =>
    ol (iw ((iw (1 + (iw (2 * x10_)))) + (Int.tmod (Int.tdiv (gi s8 118 0) 10) 2))) fun x12_ =>
    oc (0 ≤ x12_ ∧ x12_ < 44) <|
    if 9 ≤ (gi s8 118 ((x12_).toNat)) then (
      some (x10_, s8))
    else (
      oc (0 ≤ x12_ ∧ x12_ < 44) <|
      oc (0 ≤ x12_ ∧ x12_ < 44) <|
      os (si s8 118 ((x12_).toNat) (iw ((gi s8 118 ((x12_).toNat)) + 1))) fun s19 =>
      some (x10_, s19)))
noncomputable def f_Mo_walk (a1 : Int) (s0 : SS) : OO :=
  ob (f_Mo_doWalk s0) fun r1 s1 =>
  if r1 = 0 then (
    some ((-1), s1))
  else (
    if a1 = 0 then (
      some (gi s1 118 16, s1))
    else     if a1 = 1 then (
        some (gi s1 118 17, s1))
    else     if a1 = 2 then (
          some (gi s1 118 18, s1))
    else     if a1 = 3 then (
            some (gi s1 118 19, s1))
    else     if a1 = 4 then (
              some (gi s1 118 20, s1))
    else     if a1 = 5 then (
                some (gi s1 118 21, s1))
    else     if a1 = 6 then (
                  ob (f_Mo_isEnded 118 s1) fun r17 s17 =>
                  if r17 = 0 then (
                    some (0, s17))
                  else (
                    some (1, s17)))
    else (
                  some ((-1), s1)))
noncomputable def f_Mo_undo  (s0 : SS) : OO :=
  if (gi s0 86 56) = 0 then (
    some (0, s0))
  else (
    os (si s0 86 56 (iw ((gi s0 86 56) - 1))) fun s2 =>
    os (si s2 86 57 (iw ((gi s2 86 57) + 1))) fun s3 =>
    ob (f_Mo_exchange s3) fun r4 s4 =>
    some (1, s4))
noncomputable def f_Mo_redo  (s0 : SS) : OO :=
  if (gi s0 86 57) = 0 then (
    some (0, s0))
  else (
    ob (f_Mo_exchange s0) fun r2 s2 =>
    os (si s2 86 56 (iw ((gi s2 86 56) + 1))) fun s3 =>
    os (si s3 86 57 (iw ((gi s3 86 57) - 1))) fun s4 =>
    some (1, s4))
noncomputable def f_Mo_lies (a1 : Int) (s0 : SS) : OO :=
  ob (f_Mo_isIn a1 0 (iw ((gi s0 86 62) - 1)) s0) fun r1 s1 =>
  if r1 = 0 then (
    some ((-1), s1))
  else (
    oc (0 ≤ a1 ∧ a1 < 12) <|
    some (gi s1 122 ((a1).toNat), s1))
noncomputable def f_Mo_start (a1 : Int) (s0 : SS) : OO :=
  ob (f_Mo_isPlace a1 s0) fun r1 s1 =>
  if r1 = 0 then (
    some ((-1), s1))
  else (
    os (si s1 86 60 a1) fun s3 =>
    os (si s3 86 61 0) fun s4 =>
    some (1, s4))
noncomputable def l_Mo_routeEnd_7  : Nat → Int → Int → SS → OO
  | 0, _, _, _ => none
  | fu + 1, x1, x2, s0 =>
    if (gi s0 86 61) ≤ x2 then (
      some (x1, s0))
    else (
      oc (0 ≤ x2 ∧ x2 < 12) <|
      ob (f_Mo_otherEnd (gi s0 121 ((x2).toNat)) x1 s0) fun r4 s4 =>
      (l_Mo_routeEnd_7 fu) r4 (iw (x2 + 1)) s4)
noncomputable def f_Mo_routeEnd  (s0 : SS) : OO :=
  ol (gi s0 86 60) fun x1_ =>
  l_Mo_routeEnd_7 FU x1_ 0 s0
noncomputable def f_Mo_step (a1 : Int) (s0 : SS) : OO :=
  if (gi s0 86 60) < 0 then (
    some ((-1), s0))
  else (
    ob (f_Mo_isWay a1 s0) fun r2 s2 =>
    if r2 = 0 then (
      some ((-1), s2))
    else (
      if (gi s2 86 61) = 12 then (
        some ((-1), s2))
      else (
        ob (f_Mo_routeEnd s2) fun r5 s5 =>
        ob (f_Mo_otherEnd a1 r5 s5) fun r6 s6 =>
        if 0 ≤ r6 then (
          oc (0 ≤ gi s6 86 61 ∧ gi s6 86 61 < 12) <|
          os (si s6 121 ((gi s6 86 61).toNat) a1) fun s10 =>
          os (si s10 86 61 (iw ((gi s10 86 61) + 1))) fun s11 =>
          some (gi s11 86 61, s11))
        else (
          some ((-1), s6)))))
noncomputable def j_Mo_along_78 (u1 : Nat) (self16 : Int → Int → SS → OO) (self37 : Int → SS → OO) (x2 : Int) (x5 : Int) (x6 : Int) (x7 : Int) (z2 : Int) (z3 : Int) (s0 : SS) : OO :=
  ob (f_Mo_say 119 z2 z3 s0) fun r1 s1 =>
  ob (f_Mo_isEnded 119 s1) fun r3 s3 =>
  if r3 = 0 then (
    self37 (iw (x7 + 1)) s3)
  else (
    os (si s3 86 63 x5) fun s5 =>
    os (si s5 86 64 x7) fun s6 =>
    some (0, s6))
noncomputable def l_Mo_along_37 (u1 : Nat) (self16 : Int → Int → SS → OO) (y2 : Int) (y5 : Int) (y6 : Int) : Nat → Int → SS → OO
  | 0, _, _ => none
  | fu + 1, x7, s0 =>
    oc (0 ≤ y5 ∧ y5 < ((rN u1 : Nat) : Int)) <|
    ob (f_Mo_milesOf (gi s0 u1 ((y5).toNat)) s0) fun r2 s2 =>
    if r2 < x7 then (
      self16 y6 (iw (y5 + 1)) s2)
    else (
      oc (0 ≤ y5 ∧ y5 < ((rN u1 : Nat) : Int)) <|
      oc (0 ≤ y5 ∧ y5 < ((rN u1 : Nat) : Int)) <|
      ob (f_Mo_milesOf (gi s2 u1 ((y5).toNat)) s2) fun r7 s7 =>
      if x7 = r7 then (
        j_Mo_along_78 u1 self16 (l_Mo_along_37 u1 self16 y2 y5 y6 fu) y2 y5 y6 x7 (gi s2 u1 ((y5).toNat)) y6 s7)
      else (
        j_Mo_along_78 u1 self16 (l_Mo_along_37 u1 self16 y2 y5 y6 fu) y2 y5 y6 x7 (gi s2 u1 ((y5).toNat)) (-1) s7))
noncomputable def l_Mo_along_16 (u1 : Nat) (y2 : Int) : Nat → Int → Int → SS → OO
  | 0, _, _, _ => none
  | fu + 1, x4, x5, s0 =>
    if y2 ≤ x5 then (
      some (0, s0))
    else (
      oc (0 ≤ x5 ∧ x5 < ((rN u1 : Nat) : Int)) <|
      ob (f_Mo_otherEnd (gi s0 u1 ((x5).toNat)) x4 s0) fun r3 s3 =>
      l_Mo_along_37 u1 (l_Mo_along_16 u1 y2 fu) y2 x5 r3 FU 1 s3)
noncomputable def f_Mo_along (u1 : Nat) (a2 : Int) (a3 : Int) (s0 : SS) : OO :=
  os (si s0 86 63 (-1)) fun s1 =>
  os (si s1 86 64 (-1)) fun s2 =>
  l_Mo_along_16 u1 a2 FU a3 0 s2
noncomputable def f_Mo_walked (a1 : Int) (a2 : Int) (a3 : Int) (a4 : Int) (s0 : SS) : OO :=
  ob (f_Mo_isCouple a1 a2 a3 s0) fun r1 s1 =>
  if r1 = 0 then (
    some ((-2), s1))
  else (
    ob (f_Mo_isIn a4 0 3 s1) fun r3 s3 =>
    if r3 = 0 then (
      some ((-2), s3))
    else (
      if 0 ≤ (gi s3 86 60) then (
        ob (f_Mo_begin 119 a1 a2 a3 s3) fun r7 s7 =>
        ob (f_Mo_along 121 (gi s7 86 61) (gi s7 86 60) s7) fun r9 s9 =>
        if a4 = 3 then (
          some (gi s9 119 20, s9))
        else (
          if 0 ≤ (gi s9 86 63) then (
            if a4 = 0 then (
              some (gi s9 119 19, s9))
            else (
              if a4 = 1 then (
                some (gi s9 86 63, s9))
              else (
                some (gi s9 86 64, s9))))
          else (
            some ((-1), s9))))
      else (
        some ((-2), s3))))
noncomputable def j_Mo_layFar_25 (self2 : Int → SS → OO) (x1 : Int) (x2 : Int) (z1 : Int) (z2 : Int) (s0 : SS) : OO :=
  oc (0 ≤ z1 ∧ z1 < 8) <|
  os (si s0 123 ((z1).toNat) z2) fun s2 =>
  self2 (iw (x2 + 1)) s2
noncomputable def j_Mo_layFar_110 (self34 : Int → SS → OO) (self42 : Int → SS → OO) (x2 : Int) (x3 : Int) (s0 : SS) : OO :=
  ob (f_Mo_fromOf x3 s0) fun r2 s2 =>
  oc (0 ≤ r2 ∧ r2 < 8) <|
  ob (f_Mo_milesOf x3 s2) fun r4 s4 =>
  ob (f_Mo_toOf x3 s4) fun r6 s6 =>
  oc (0 ≤ r6 ∧ r6 < 8) <|
  if (gi s6 123 ((r6).toNat)) ≤ (iw ((gi s2 123 ((r2).toNat)) + r4)) then (
    self42 (iw (x3 + 1)) s6)
  else (
    ob (f_Mo_toOf x3 s6) fun r10 s10 =>
    ob (f_Mo_fromOf x3 s10) fun r12 s12 =>
    oc (0 ≤ r12 ∧ r12 < 8) <|
    ob (f_Mo_milesOf x3 s12) fun r14 s14 =>
    oc (0 ≤ r10 ∧ r10 < 8) <|
    os (si s14 123 ((r10).toNat) (iw ((gi s12 123 ((r12).toNat)) + r14))) fun s16 =>
    self42 (iw (x3 + 1)) s16)
noncomputable def l_Mo_layFar_42 (self34 : Int → SS → OO) (y2 : Int) : Nat → Int → SS → OO
  | 0, _, _ => none
  | fu + 1, x3, s0 =>
    oc (0 ≤ gi s0 86 40 ∧ gi s0 86 40 < 2) <|
    if (gi s0 90 ((gi s0 86 40).toNat)) ≤ x3 then (
      self34 (iw (y2 + 1)) s0)
    else (
      ob (f_Mo_toOf x3 s0) fun r5 s5 =>
      oc (0 ≤ r5 ∧ r5 < 8) <|
      ob (f_Mo_milesOf x3 s5) fun r7 s7 =>
      ob (f_Mo_fromOf x3 s7) fun r9 s9 =>
      oc (0 ≤ r9 ∧ r9 < 8) <|
      if (gi s9 123 ((r9).toNat)) ≤ (iw ((gi s5 123 ((r5).toNat)) + r7)) then (
        j_Mo_layFar_110 self34 (l_Mo_layFar_42 self34 y2 fu) y2 x3 s9)
      else (
        ob (f_Mo_fromOf x3 s9) fun r13 s13 =>
        ob (f_Mo_toOf x3 s13) fun r15 s15 =>
        oc (0 ≤ r15 ∧ r15 < 8) <|
        ob (f_Mo_milesOf x3 s15) fun r17 s17 =>
        oc (0 ≤ r13 ∧ r13 < 8) <|
        os (si s17 123 ((r13).toNat) (iw ((gi s15 123 ((r15).toNat)) + r17))) fun s19 =>
        j_Mo_layFar_110 self34 (l_Mo_layFar_42 self34 y2 fu) y2 x3 s19))
noncomputable def l_Mo_layFar_34  : Nat → Int → SS → OO
  | 0, _, _ => none
  | fu + 1, x2, s0 =>
    if 8 ≤ x2 then (
      some (0, s0))
    else (
      l_Mo_layFar_42 (l_Mo_layFar_34 fu) x2 FU 0 s0)
noncomputable def l_Mo_layFar_2 (y1 : Int) : Nat → Int → SS → OO
  | 0, _, _ => none
  | fu + 1, x2, s0 =>
    if 8 ≤ x2 then (
      l_Mo_layFar_34 FU 0 s0)
    else (
      if x2 = y1 then (
        j_Mo_layFar_25 (l_Mo_layFar_2 y1 fu) y1 x2 x2 0 s0)
      else (
        j_Mo_layFar_25 (l_Mo_layFar_2 y1 fu) y1 x2 x2 1000000 s0))
noncomputable def f_Mo_layFar (a1 : Int) (s0 : SS) : OO :=
  l_Mo_layFar_2 a1 FU 0 s0
noncomputable def l_Mo_layShortest_34 (self26 : Int → SS → OO) (y1 : Int) (y2 : Int) (y3 : Int) : Nat → Int → SS → OO
  | 0, _, _ => none
  | fu + 1, x4, s0 =>
    ob (f_Mo_otherEnd x4 y3 s0) fun r1 s1 =>
    if r1 < 0 then (
      (l_Mo_layShortest_34 self26 y1 y2 y3 fu) (iw (x4 + 1)) s1)
    else (
      ob (f_Mo_otherEnd x4 y3 s1) fun r4 s4 =>
      oc (0 ≤ r4 ∧ r4 < 8) <|
      ob (f_Mo_milesOf x4 s4) fun r6 s6 =>
      oc (0 ≤ y3 ∧ y3 < 8) <|
      if (iw ((gi s4 123 ((r4).toNat)) + r6)) = (gi s6 123 ((y3).toNat)) then (
        oc (0 ≤ gi s6 86 67 ∧ gi s6 86 67 < 8) <|
        os (si s6 124 ((gi s6 86 67).toNat) x4) fun s12 =>
        os (si s12 86 67 (iw ((gi s12 86 67) + 1))) fun s13 =>
        ob (f_Mo_otherEnd x4 y3 s13) fun r14 s14 =>
        self26 r14 s14)
      else (
        (l_Mo_layShortest_34 self26 y1 y2 y3 fu) (iw (x4 + 1)) s6))
noncomputable def l_Mo_layShortest_26 (y1 : Int) (y2 : Int) : Nat → Int → SS → OO
  | 0, _, _ => none
  | fu + 1, x3, s0 =>
    if x3 = y2 then (
      oc (0 ≤ y1 ∧ y1 < 8) <|
      some (gi s0 123 ((y1).toNat), s0))
    else (
      l_Mo_layShortest_34 (l_Mo_layShortest_26 y1 y2 fu) y1 y2 x3 FU 0 s0)
noncomputable def f_Mo_layShortest (a1 : Int) (a2 : Int) (s0 : SS) : OO :=
  ob (f_Mo_layFar a2 s0) fun r1 s1 =>
  os (si s1 86 67 0) fun s2 =>
  oc (0 ≤ a1 ∧ a1 < 8) <|
  if (gi s2 123 ((a1).toNat)) < 1000000 then (
    l_Mo_layShortest_26 a1 a2 FU a1 s2)
  else (
    some ((-1), s2))
noncomputable def l_Mo_shortest_33 (y3 : Int) : Nat → Int → SS → OO
  | 0, _, _ => none
  | fu + 1, x4, s0 =>
    if (gi s0 86 67) ≤ x4 then (
      os (si s0 86 62 (gi s0 86 67)) fun s2 =>
      some (y3, s2))
    else (
      oc (0 ≤ x4 ∧ x4 < 8) <|
      oc (0 ≤ x4 ∧ x4 < 12) <|
      os (si s0 122 ((x4).toNat) (gi s0 124 ((x4).toNat))) fun s7 =>
      (l_Mo_shortest_33 y3 fu) (iw (x4 + 1)) s7)
noncomputable def f_Mo_shortest (a1 : Int) (a2 : Int) (s0 : SS) : OO :=
  os (si s0 86 62 0) fun s1 =>
  ob (f_Mo_isPlace a1 s1) fun r2 s2 =>
  if r2 = 0 then (
    some ((-1), s2))
  else (
    ob (f_Mo_isPlace a2 s2) fun r4 s4 =>
    if r4 = 0 then (
      some ((-1), s4))
    else (
      ob (f_Mo_layShortest a1 a2 s4) fun r6 s6 =>
      l_Mo_shortest_33 r6 FU 0 s6))
noncomputable def f_Mo_coupleMany  (s0 : SS) : OO :=
  some (216, s0)
noncomputable def f_Mo_firstOf (a1 : Int) (s0 : SS) : OO :=
  some (Int.tdiv a1 36, s0)
noncomputable def f_Mo_otherOf (a1 : Int) (s0 : SS) : OO :=
  some (Int.tmod (Int.tdiv a1 6) 6, s0)
noncomputable def f_Mo_matterOf (a1 : Int) (s0 : SS) : OO :=
  some (Int.tmod a1 6, s0)
noncomputable def f_Mo_canBe (a1 : Int) (s0 : SS) : OO :=
  ob (f_Mo_firstOf a1 s0) fun r1 s1 =>
  ob (f_Mo_otherOf a1 s1) fun r2 s2 =>
  ob (f_Mo_matterOf a1 s2) fun r3 s3 =>
  ob (f_Mo_isCouple r1 r2 r3 s3) fun r4 s4 =>
  some (r4, s4)
noncomputable def f_Mo_beginBy (a1 : Int) (s0 : SS) : OO :=
  ob (f_Mo_firstOf a1 s0) fun r2 s2 =>
  ob (f_Mo_otherOf a1 s2) fun r3 s3 =>
  ob (f_Mo_matterOf a1 s3) fun r4 s4 =>
  ob (f_Mo_begin 119 r2 r3 r4 s4) fun r5 s5 =>
  some (0, s5)
noncomputable def l_Mo_send_37 (y1 : Int) : Nat → Int → Int → SS → OO
  | 0, _, _, _ => none
  | fu + 1, x3, x4, s0 =>
    ob (f_Mo_coupleMany s0) fun r1 s1 =>
    if r1 ≤ x4 then (
      some (x3, s1))
    else (
      ob (f_Mo_canBe x4 s1) fun r3 s3 =>
      if r3 = 0 then (
        (l_Mo_send_37 y1 fu) x3 (iw (x4 + 1)) s3)
      else (
        ob (f_Mo_beginBy x4 s3) fun r5 s5 =>
        ob (f_Mo_along 124 (gi s5 86 67) y1 s5) fun r7 s7 =>
        if (gi s7 86 63) < 0 then (
          (l_Mo_send_37 y1 fu) x3 (iw (x4 + 1)) s7)
        else (
          if (gi s7 86 63) < (iw ((gi s7 86 67) - 1)) then (
            (l_Mo_send_37 y1 fu) x3 (iw (x4 + 1)) s7)
          else (
            oc (0 ≤ gi s7 86 63 ∧ gi s7 86 63 < 8) <|
            ob (f_Mo_milesOf (gi s7 124 ((gi s7 86 63).toNat)) s7) fun r12 s12 =>
            if r12 ≤ (gi s7 86 64) then (
              if x3 = 0 then (
                ob (f_Mo_firstOf x4 s12) fun r16 s16 =>
                os (si s16 122 0 r16) fun s17 =>
                ob (f_Mo_otherOf x4 s17) fun r19 s19 =>
                os (si s19 122 1 r19) fun s20 =>
                ob (f_Mo_matterOf x4 s20) fun r22 s22 =>
                os (si s22 122 2 r22) fun s23 =>
                os (si s23 86 62 3) fun s24 =>
                (l_Mo_send_37 y1 fu) (iw (x3 + 1)) (iw (x4 + 1)) s24)
              else (
                (l_Mo_send_37 y1 fu) (iw (x3 + 1)) (iw (x4 + 1)) s12))
            else (
              (l_Mo_send_37 y1 fu) x3 (iw (x4 + 1)) s12)))))
noncomputable def f_Mo_send (a1 : Int) (a2 : Int) (s0 : SS) : OO :=
  os (si s0 86 62 0) fun s1 =>
  ob (f_Mo_isPlace a1 s1) fun r2 s2 =>
  if r2 = 0 then (
    some ((-1), s2))
  else (
    ob (f_Mo_isPlace a2 s2) fun r4 s4 =>
    if r4 = 0 then (
      some ((-1), s4))
    else (
      ob (f_Mo_layShortest a1 a2 s4) fun r6 s6 =>
      if 0 ≤ r6 then (
        l_Mo_send_37 a1 FU 0 0 s6)
      else (
        some ((-1), s6))))
noncomputable def j_Mo_measured_67 (self15 : Int → Int → SS → OO) (x1 : Int) (x2 : Int) (x6 : Int) (x7 : Int) (z2 : Int) (z3 : Int) (s0 : SS) : OO :=
  ob (f_Mo_say 119 z2 z3 s0) fun r1 s1 =>
  ob (f_Mo_isEnded 119 s1) fun r3 s3 =>
  if r3 = 0 then (
    self15 1 (iw (x7 + 1)) s3)
  else (
    self15 0 (iw (x7 + 1)) s3)
noncomputable def j_Mo_measured_45 (self15 : Int → Int → SS → OO) (x1 : Int) (x2 : Int) (x6 : Int) (x7 : Int) (s0 : SS) : OO :=
  ob (f_Mo_milesOf x2 s0) fun r2 s2 =>
  if x7 = r2 then (
    j_Mo_measured_67 self15 x1 x2 x6 x7 x2 x6 s2)
  else (
    j_Mo_measured_67 self15 x1 x2 x6 x7 x2 (-1) s2)
noncomputable def l_Mo_measured_15 (y1 : Int) (y2 : Int) (y6 : Int) : Nat → Int → Int → SS → OO
  | 0, _, _, _ => none
  | fu + 1, x5, x7, s0 =>
    ob (f_Mo_milesOf y2 s0) fun r1 s1 =>
    if r1 < x7 then (
      oc (x5 = 0 ∨ x5 = 1) <|
      some (x5, s1))
    else (
      if x5 = 0 then (
        ob (f_Mo_beginBy y1 s1) fun r5 s5 =>
        os (si s5 86 68 (iw ((gi s5 86 68) + 1))) fun s6 =>
        j_Mo_measured_45 (l_Mo_measured_15 y1 y2 y6 fu) y1 y2 y6 x7 s6)
      else (
        j_Mo_measured_45 (l_Mo_measured_15 y1 y2 y6 fu) y1 y2 y6 x7 s1))
noncomputable def f_Mo_measured (a1 : Int) (a2 : Int) (a3 : Int) (a4 : Int) (s0 : SS) : OO :=
  ob (f_Mo_otherEnd a2 a3 s0) fun r1 s1 =>
  l_Mo_measured_15 a1 a2 r1 FU a4 1 s1
noncomputable def j_Mo_measureBy_25  (z1 : Int) (z2 : Int) (z3 : Int) (s0 : SS) : OO :=
  ob (f_Mo_measured z1 z2 z3 0 s0) fun r1 s1 =>
  some (gi s1 86 68, s1)
noncomputable def f_Mo_measureBy (a1 : Int) (a2 : Int) (a3 : Int) (s0 : SS) : OO :=
  os (si s0 86 68 0) fun s1 =>
  if a3 = 0 then (
    ob (f_Mo_fromOf a2 s1) fun r3 s3 =>
    j_Mo_measureBy_25 a1 a2 r3 s3)
  else (
    ob (f_Mo_toOf a2 s1) fun r4 s4 =>
    j_Mo_measureBy_25 a1 a2 r4 s4)
noncomputable def f_Mo_measure (a1 : Int) (a2 : Int) (a3 : Int) (a4 : Int) (a5 : Int) (s0 : SS) : OO :=
  ob (f_Mo_isCouple a1 a2 a3 s0) fun r1 s1 =>
  if r1 = 0 then (
    some ((-1), s1))
  else (
    ob (f_Mo_isWay a4 s1) fun r3 s3 =>
    if r3 = 0 then (
      some ((-1), s3))
    else (
      ob (f_Mo_measureBy (iw ((iw ((iw ((iw (6 * a1)) + a2)) * 6)) + a3)) a4 a5 s3) fun r5 s5 =>
      some (r5, s5)))
noncomputable def l_Mo_adds_36 (y1 : Int) (y2 : Int) : Nat → Int → Int → SS → OO
  | 0, _, _, _ => none
  | fu + 1, x3, x4, s0 =>
    ob (f_Mo_coupleMany s0) fun r1 s1 =>
    if r1 ≤ x4 then (
      some (x3, s1))
    else (
      ob (f_Mo_canBe x4 s1) fun r3 s3 =>
      if r3 = 0 then (
        (l_Mo_adds_36 y1 y2 fu) x3 (iw (x4 + 1)) s3)
      else (
        ob (f_Mo_measureBy x4 y1 0 s3) fun r5 s5 =>
        ob (f_Mo_measureBy x4 y2 0 s5) fun r6 s6 =>
        ol (iw (r5 + r6)) fun x7_ =>
        os (si s6 86 68 0) fun s8 =>
        ob (f_Mo_fromOf y1 s8) fun r9 s9 =>
        ob (f_Mo_measured x4 y1 r9 0 s9) fun r10 s10 =>
        ob (f_Mo_fromOf y2 s10) fun r11 s11 =>
        ob (f_Mo_measured x4 y2 r11 r10 s11) fun r12 s12 =>
        if (gi s12 86 68) = x7_ then (
          ol (iw (x3 + 1)) fun x15_ =>
          (l_Mo_adds_36 y1 y2 fu) x15_ (iw (x4 + 1)) s12)
        else (
          ol (iw (x3 + 0)) fun x14_ =>
          (l_Mo_adds_36 y1 y2 fu) x14_ (iw (x4 + 1)) s12)))
noncomputable def f_Mo_adds (a1 : Int) (a2 : Int) (s0 : SS) : OO :=
  ob (f_Mo_isWay a1 s0) fun r1 s1 =>
  if r1 = 0 then (
    some ((-1), s1))
  else (
    ob (f_Mo_isWay a2 s1) fun r3 s3 =>
    if r3 = 0 then (
      some ((-1), s3))
    else (
      ob (f_Mo_toOf a1 s3) fun r5 s5 =>
      ob (f_Mo_fromOf a2 s5) fun r6 s6 =>
      if r5 = r6 then (
        l_Mo_adds_36 a1 a2 FU 0 0 s6)
      else (
        some ((-1), s6))))
noncomputable def l_Mo_isFair_2 (y1 : Int) : Nat → Int → SS → OO
  | 0, _, _ => none
  | fu + 1, x2, s0 =>
    oc (0 ≤ gi s0 86 40 ∧ gi s0 86 40 < 2) <|
    if (gi s0 90 ((gi s0 86 40).toNat)) ≤ x2 then (
      some (1, s0))
    else (
      ob (f_Mo_measureBy y1 x2 0 s0) fun r4 s4 =>
      ob (f_Mo_measureBy y1 x2 1 s4) fun r5 s5 =>
      if r4 = r5 then (
        (l_Mo_isFair_2 y1 fu) (iw (x2 + 1)) s5)
      else (
        some (0, s5)))
noncomputable def f_Mo_isFair (a1 : Int) (s0 : SS) : OO :=
  l_Mo_isFair_2 a1 FU 0 s0
noncomputable def l_Mo_fair_4  : Nat → Int → Int → SS → OO
  | 0, _, _, _ => none
  | fu + 1, x1, x2, s0 =>
    ob (f_Mo_coupleMany s0) fun r1 s1 =>
    if r1 ≤ x2 then (
      some (x1, s1))
    else (
      ob (f_Mo_canBe x2 s1) fun r3 s3 =>
      if r3 = 0 then (
        ol (iw (x1 + 0)) fun x5_ =>
        (l_Mo_fair_4 fu) x5_ (iw (x2 + 1)) s3)
      else (
        ob (f_Mo_isFair x2 s3) fun r6 s6 =>
        if r6 = 0 then (
          ol (iw (x1 + 0)) fun x8_ =>
          (l_Mo_fair_4 fu) x8_ (iw (x2 + 1)) s6)
        else (
          ol (iw (x1 + 1)) fun x9_ =>
          (l_Mo_fair_4 fu) x9_ (iw (x2 + 1)) s6)))
noncomputable def f_Mo_fair  (s0 : SS) : OO :=
  l_Mo_fair_4 FU 0 0 s0
noncomputable def l_Mo_layJust_19 (self2 : Int → SS → OO) (y1 : Int) : Nat → Int → SS → OO
  | 0, _, _ => none
  | fu + 1, x2, s0 =>
    oc (0 ≤ gi s0 86 40 ∧ gi s0 86 40 < 2) <|
    if (gi s0 90 ((gi s0 86 40).toNat)) ≤ x2 then (
      self2 (iw (y1 + 1)) s0)
    else (
      ob (f_Mo_canBe y1 s0) fun r4 s4 =>
      if r4 = 0 then (
        self2 (iw (y1 + 1)) s4)
      else (
        ob (f_Mo_beginBy y1 s4) fun r6 s6 =>
        os (si s6 126 0 x2) fun s8 =>
        ob (f_Mo_fromOf x2 s8) fun r10 s10 =>
        ob (f_Mo_along 126 1 r10 s10) fun r11 s11 =>
        if (gi s11 86 63) = 0 then (
          ob (f_Mo_milesOf x2 s11) fun r13 s13 =>
          if (gi s11 86 64) = r13 then (
            oc (0 ≤ y1 ∧ y1 < 216) <|
            oc (0 ≤ y1 ∧ y1 < 216) <|
            os (si s13 125 ((y1).toNat) (zor (gi s13 125 ((y1).toNat)) (zshl 1 x2))) fun s18 =>
            (l_Mo_layJust_19 self2 y1 fu) (iw (x2 + 1)) s18)
          else (
            (l_Mo_layJust_19 self2 y1 fu) (iw (x2 + 1)) s13))
        else (
          (l_Mo_layJust_19 self2 y1 fu) (iw (x2 + 1)) s11)))
noncomputable def l_Mo_layJust_2  : Nat → Int → SS → OO
  | 0, _, _ => none
  | fu + 1, x1, s0 =>
    ob (f_Mo_coupleMany s0) fun r1 s1 =>
    if r1 ≤ x1 then (
      some (0, s1))
    else (
      oc (0 ≤ x1 ∧ x1 < 216) <|
      os (si s1 125 ((x1).toNat) 0) fun s5 =>
      l_Mo_layJust_19 (l_Mo_layJust_2 fu) x1 FU 0 s5)
noncomputable def f_Mo_layJust  (s0 : SS) : OO :=
  l_Mo_layJust_2 FU 0 s0
noncomputable def f_Mo_layCouple (a1 : Int) (a2 : Int) (s0 : SS) : OO :=
  ob (f_Mo_firstOf a2 s0) fun r2 s2 =>
  ob (f_Mo_otherOf a2 s2) fun r3 s3 =>
  ob (f_Mo_matterOf a2 s3) fun r4 s4 =>
  oc (0 ≤ a1 ∧ a1 < 12) <|
  os (si s4 122 ((a1).toNat) (iw ((iw ((iw (100 * r2)) + (iw (10 * r3)))) + r4))) fun s6 =>
  some (0, s6)
noncomputable def l_Mo_coverByThree_33 (self2 : Int → SS → OO) (self12 : Int → SS → OO) (y1 : Int) (y2 : Int) (y3 : Int) (y4 : Int) : Nat → Int → SS → OO
  | 0, _, _ => none
  | fu + 1, x5, s0 =>
    if y1 ≤ x5 then (
      self12 (iw (y4 + 1)) s0)
    else (
      oc (0 ≤ y4 ∧ y4 < 216) <|
      if (gi s0 125 ((y4).toNat)) ≤ 0 then (
        self12 (iw (y4 + 1)) s0)
      else (
        oc (0 ≤ y3 ∧ y3 < 216) <|
        oc (0 ≤ y4 ∧ y4 < 216) <|
        oc (0 ≤ x5 ∧ x5 < 216) <|
        if (zor (zor (gi s0 125 ((y3).toNat)) (gi s0 125 ((y4).toNat))) (gi s0 125 ((x5).toNat))) = y2 then (
          ob (f_Mo_layCouple 0 y3 s0) fun r12 s12 =>
          ob (f_Mo_layCouple 1 y4 s12) fun r13 s13 =>
          ob (f_Mo_layCouple 2 x5 s13) fun r14 s14 =>
          os (si s14 86 62 3) fun s15 =>
          some (3, s15))
        else (
          (l_Mo_coverByThree_33 self2 self12 y1 y2 y3 y4 fu) (iw (x5 + 1)) s0)))
noncomputable def l_Mo_coverByThree_12 (self2 : Int → SS → OO) (y1 : Int) (y2 : Int) (y3 : Int) : Nat → Int → SS → OO
  | 0, _, _ => none
  | fu + 1, x4, s0 =>
    if y1 ≤ x4 then (
      self2 (iw (y3 + 1)) s0)
    else (
      oc (0 ≤ y3 ∧ y3 < 216) <|
      if (gi s0 125 ((y3).toNat)) ≤ 0 then (
        self2 (iw (y3 + 1)) s0)
      else (
        ol (iw (x4 + 1)) fun x5_ =>
        l_Mo_coverByThree_33 self2 (l_Mo_coverByThree_12 self2 y1 y2 y3 fu) y1 y2 y3 x4 FU x5_ s0))
noncomputable def l_Mo_coverByThree_2 (y1 : Int) (y2 : Int) : Nat → Int → SS → OO
  | 0, _, _ => none
  | fu + 1, x3, s0 =>
    if y1 ≤ x3 then (
      some ((-1), s0))
    else (
      ol (iw (x3 + 1)) fun x2_ =>
      l_Mo_coverByThree_12 (l_Mo_coverByThree_2 y1 y2 fu) y1 y2 x3 FU x2_ s0)
noncomputable def f_Mo_coverByThree (a1 : Int) (a2 : Int) (s0 : SS) : OO :=
  l_Mo_coverByThree_2 a1 a2 FU 0 s0
noncomputable def l_Mo_cover_85 (self75 : Int → SS → OO) (y1 : Int) (y2 : Int) (y3 : Int) : Nat → Int → SS → OO
  | 0, _, _ => none
  | fu + 1, x4, s0 =>
    if y2 ≤ x4 then (
      self75 (iw (y3 + 1)) s0)
    else (
      oc (0 ≤ y3 ∧ y3 < 216) <|
      if (gi s0 125 ((y3).toNat)) ≤ 0 then (
        self75 (iw (y3 + 1)) s0)
      else (
        oc (0 ≤ y3 ∧ y3 < 216) <|
        oc (0 ≤ x4 ∧ x4 < 216) <|
        if (zor (gi s0 125 ((y3).toNat)) (gi s0 125 ((x4).toNat))) = y1 then (
          ob (f_Mo_layCouple 0 y3 s0) fun r10 s10 =>
          ob (f_Mo_layCouple 1 x4 s10) fun r11 s11 =>
          os (si s11 86 62 2) fun s12 =>
          some (2, s12))
        else (
          (l_Mo_cover_85 self75 y1 y2 y3 fu) (iw (x4 + 1)) s0)))
noncomputable def l_Mo_cover_75 (y1 : Int) (y2 : Int) : Nat → Int → SS → OO
  | 0, _, _ => none
  | fu + 1, x3, s0 =>
    if y2 ≤ x3 then (
      ob (f_Mo_coverByThree y2 y1 s0) fun r2 s2 =>
      some (r2, s2))
    else (
      ol (iw (x3 + 1)) fun x3_ =>
      l_Mo_cover_85 (l_Mo_cover_75 y1 y2 fu) y1 y2 x3 FU x3_ s0)
noncomputable def l_Mo_cover_36 (y1 : Int) (y2 : Int) : Nat → Int → SS → OO
  | 0, _, _ => none
  | fu + 1, x3, s0 =>
    if y2 ≤ x3 then (
      l_Mo_cover_75 y1 y2 FU 0 s0)
    else (
      oc (0 ≤ x3 ∧ x3 < 216) <|
      if (gi s0 125 ((x3).toNat)) = y1 then (
        ob (f_Mo_layCouple 0 x3 s0) fun r5 s5 =>
        os (si s5 86 62 1) fun s6 =>
        some (1, s6))
      else (
        (l_Mo_cover_36 y1 y2 fu) (iw (x3 + 1)) s0))
noncomputable def f_Mo_cover  (s0 : SS) : OO :=
  os (si s0 86 62 0) fun s1 =>
  oc (0 ≤ gi s1 86 40 ∧ gi s1 86 40 < 2) <|
  ol (iw ((zshl 1 (gi s1 90 ((gi s1 86 40).toNat))) - 1)) fun x4_ =>
  if x4_ = 0 then (
    some (0, s1))
  else (
    ob (f_Mo_layJust s1) fun r6 s6 =>
    ob (f_Mo_coupleMany s6) fun r7 s7 =>
    l_Mo_cover_36 x4_ r7 FU 0 s7)
noncomputable def l_Mo_turned_27 (self4 : Int → Int → SS → OO) (self16 : Int → Int → SS → OO) (y2 : Int) (y3 : Int) : Nat → Int → Int → SS → OO
  | 0, _, _, _ => none
  | fu + 1, x1, x4, s0 =>
    oc (0 ≤ gi s0 86 40 ∧ gi s0 86 40 < 2) <|
    if (gi s0 92 ((gi s0 86 40).toNat)) ≤ x4 then (
      self16 x1 (iw (y3 + 1)) s0)
    else (
      ob (f_Mo_openLength y2 y3 x4 s0) fun r4 s4 =>
      ob (f_Mo_openLength y3 y2 x4 s4) fun r5 s5 =>
      if r4 = r5 then (
        ol (iw (x1 + 1)) fun x8_ =>
        (l_Mo_turned_27 self4 self16 y2 y3 fu) x8_ (iw (x4 + 1)) s5)
      else (
        ol (iw (x1 + 0)) fun x7_ =>
        (l_Mo_turned_27 self4 self16 y2 y3 fu) x7_ (iw (x4 + 1)) s5))
noncomputable def l_Mo_turned_16 (self4 : Int → Int → SS → OO) (y2 : Int) : Nat → Int → Int → SS → OO
  | 0, _, _, _ => none
  | fu + 1, x1, x3, s0 =>
    ob (f_Mo_soulMany s0) fun r1 s1 =>
    if r1 ≤ x3 then (
      self4 x1 (iw (y2 + 1)) s1)
    else (
      l_Mo_turned_27 self4 (l_Mo_turned_16 self4 y2 fu) y2 x3 FU x1 0 s1)
noncomputable def l_Mo_turned_4  : Nat → Int → Int → SS → OO
  | 0, _, _, _ => none
  | fu + 1, x1, x2, s0 =>
    ob (f_Mo_soulMany s0) fun r1 s1 =>
    if r1 ≤ x2 then (
      some (x1, s1))
    else (
      ol (iw (x2 + 1)) fun x3_ =>
      l_Mo_turned_16 (l_Mo_turned_4 fu) x2 FU x1 x3_ s1)
noncomputable def f_Mo_turned  (s0 : SS) : OO :=
  l_Mo_turned_4 FU 0 0 s0
noncomputable def j_Mo_loud_73 (self40 : Int → Int → SS → OO) (x4 : Int) (x5 : Int) (x6 : Int) (s0 : SS) : OO :=
  ob (f_Mo_say 119 (-1) (-1) s0) fun r2 s2 =>
  if x5 < (gi s2 119 20) then (
    ol (gi s2 119 20) fun x6_ =>
    ol (gi s2 119 19) fun x8_ =>
    self40 x6_ x8_ s2)
  else (
    self40 x5 x6 s2)
noncomputable def j_Mo_loud_119  (x4 : Int) (x5 : Int) (x6 : Int) (s0 : SS) : OO :=
  if x4 = 0 then (
    some (x5, s0))
  else (
    some (x6, s0))
noncomputable def l_Mo_loud_40 (y4 : Int) : Nat → Int → Int → SS → OO
  | 0, _, _, _ => none
  | fu + 1, x5, x6, s0 =>
    if 200 ≤ (gi s0 119 19) then (
      j_Mo_loud_119 y4 x5 x6 s0)
    else (
      if (gi s0 119 19) = 0 then (
        j_Mo_loud_73 (l_Mo_loud_40 y4 fu) y4 x5 x6 s0)
      else (
        ob (f_Mo_isEnded 119 s0) fun r6 s6 =>
        if r6 = 0 then (
          j_Mo_loud_73 (l_Mo_loud_40 y4 fu) y4 x5 x6 s6)
        else (
          j_Mo_loud_119 y4 x5 x6 s6)))
noncomputable def f_Mo_loud (a1 : Int) (a2 : Int) (a3 : Int) (a4 : Int) (s0 : SS) : OO :=
  ob (f_Mo_isCouple a1 a2 a3 s0) fun r1 s1 =>
  if r1 = 0 then (
    some ((-2), s1))
  else (
    ob (f_Mo_isIn a4 0 1 s1) fun r3 s3 =>
    if r3 = 0 then (
      some ((-2), s3))
    else (
      ob (f_Mo_begin 119 a1 a2 a3 s3) fun r6 s6 =>
      l_Mo_loud_40 a4 FU (-1) 0 s6))
noncomputable def j_Mo_doesLead_90  (x4 : Int) (x6 : Int) (s0 : SS) : OO :=
  if x6 = x4 then (
    some (1, s0))
  else (
    some (0, s0))
noncomputable def l_Mo_doesLead_58 (y2 : Int) (y4 : Int) : Nat → Int → Int → SS → OO
  | 0, _, _, _ => none
  | fu + 1, x6, x7, s0 =>
    if y2 ≤ x7 then (
      j_Mo_doesLead_90 y4 x6 s0)
    else (
      if x6 < 0 then (
        j_Mo_doesLead_90 y4 x6 s0)
      else (
        oc (0 ≤ x7 ∧ x7 < 4) <|
        ob (f_Mo_otherEnd (gi s0 127 ((x7).toNat)) x6 s0) fun r5 s5 =>
        (l_Mo_doesLead_58 y2 y4 fu) r5 (iw (x7 + 1)) s5))
noncomputable def l_Mo_doesLead_8 (y2 : Int) (y3 : Int) (y4 : Int) : Nat → Int → Int → SS → OO
  | 0, _, _, _ => none
  | fu + 1, x5, x6, s0 =>
    if x6 < 0 then (
      l_Mo_doesLead_58 y2 y4 FU y3 0 s0)
    else (
      oc (0 ≤ gi s0 86 40 ∧ gi s0 86 40 < 2) <|
      oc (¬ gi s0 90 ((gi s0 86 40).toNat) = 0) <|
      oc (0 ≤ x6 ∧ x6 < 4) <|
      os (si s0 127 ((x6).toNat) (Int.tmod x5 (gi s0 90 ((gi s0 86 40).toNat)))) fun s7 =>
      oc (0 ≤ gi s7 86 40 ∧ gi s7 86 40 < 2) <|
      oc (¬ gi s7 90 ((gi s7 86 40).toNat) = 0) <|
      ol (iw (Int.tdiv x5 (gi s7 90 ((gi s7 86 40).toNat)))) fun x11_ =>
      (l_Mo_doesLead_8 y2 y3 y4 fu) x11_ (iw (x6 + (-1))) s7)
noncomputable def f_Mo_doesLead (a1 : Int) (a2 : Int) (a3 : Int) (a4 : Int) (s0 : SS) : OO :=
  ol (iw (a2 - 1)) fun x1_ =>
  l_Mo_doesLead_8 a2 a3 a4 FU a1 x1_ s0
noncomputable def f_Mo_endsJust (a1 : Int) (a2 : Int) (a3 : Int) (s0 : SS) : OO :=
  ob (f_Mo_beginBy a1 s0) fun r1 s1 =>
  ob (f_Mo_along 127 a2 a3 s1) fun r3 s3 =>
  if (gi s3 86 63) = (iw (a2 - 1)) then (
    oc (0 ≤ iw (a2 - 1) ∧ iw (a2 - 1) < 4) <|
    ob (f_Mo_milesOf (gi s3 127 ((iw (a2 - 1)).toNat)) s3) fun r7 s7 =>
    if (gi s3 86 64) = r7 then (
      some (1, s7))
    else (
      some (0, s7)))
  else (
    some (0, s3))
noncomputable def l_Mo_home_144 (self67 : Int → Int → Int → SS → OO) (self91 : Int → Int → SS → OO) (y4 : Int) (y5 : Int) (y6 : Int) (y7 : Int) (y8 : Int) (y9 : Int) (y10 : Int) (y11 : Int) : Nat → Int → SS → OO
  | 0, _, _ => none
  | fu + 1, x12, s0 =>
    if y10 ≤ x12 then (
      os (si s0 86 62 y10) fun s2 =>
      self91 y8 (iw (y11 + 1)) s2)
    else (
      oc (0 ≤ x12 ∧ x12 < 4) <|
      oc (0 ≤ x12 ∧ x12 < 12) <|
      os (si s0 122 ((x12).toNat) (gi s0 127 ((x12).toNat))) fun s7 =>
      (l_Mo_home_144 self67 self91 y4 y5 y6 y7 y8 y9 y10 y11 fu) (iw (x12 + 1)) s7)
noncomputable def l_Mo_home_91 (self67 : Int → Int → Int → SS → OO) (y4 : Int) (y5 : Int) (y6 : Int) (y7 : Int) (y9 : Int) (y10 : Int) : Nat → Int → Int → SS → OO
  | 0, _, _, _ => none
  | fu + 1, x8, x11, s0 =>
    if y9 ≤ x11 then (
      self67 x8 y9 (iw (y10 + 1)) s0)
    else (
      ob (f_Mo_doesLead x11 y10 y4 y5 s0) fun r2 s2 =>
      if r2 = 0 then (
        (l_Mo_home_91 self67 y4 y5 y6 y7 y9 y10 fu) x8 (iw (x11 + 1)) s2)
      else (
        ob (f_Mo_endsJust y7 y10 y4 s2) fun r4 s4 =>
        if r4 = 0 then (
          (l_Mo_home_91 self67 y4 y5 y6 y7 y9 y10 fu) x8 (iw (x11 + 1)) s4)
        else (
          if (iw (x8 + 1)) ≤ 1 then (
            l_Mo_home_144 self67 (l_Mo_home_91 self67 y4 y5 y6 y7 y9 y10 fu) y4 y5 y6 y7 (iw (x8 + 1)) y9 y10 x11 FU 0 s4)
          else (
            (l_Mo_home_91 self67 y4 y5 y6 y7 y9 y10 fu) (iw (x8 + 1)) (iw (x11 + 1)) s4))))
noncomputable def l_Mo_home_67 (y4 : Int) (y5 : Int) (y6 : Int) (y7 : Int) : Nat → Int → Int → Int → SS → OO
  | 0, _, _, _, _ => none
  | fu + 1, x8, x9, x10, s0 =>
    if y6 < x10 then (
      some (x8, s0))
    else (
      oc (0 ≤ gi s0 86 40 ∧ gi s0 86 40 < 2) <|
      ol (iw (x9 * (gi s0 90 ((gi s0 86 40).toNat)))) fun x4_ =>
      l_Mo_home_91 (l_Mo_home_67 y4 y5 y6 y7 fu) y4 y5 y6 y7 x4_ x10 FU x8 0 s0)
noncomputable def f_Mo_home (a1 : Int) (a2 : Int) (a3 : Int) (a4 : Int) (a5 : Int) (a6 : Int) (s0 : SS) : OO :=
  os (si s0 86 62 0) fun s1 =>
  ob (f_Mo_isCouple a1 a2 a3 s1) fun r2 s2 =>
  if r2 = 0 then (
    some ((-1), s2))
  else (
    ob (f_Mo_isPlace a4 s2) fun r4 s4 =>
    if r4 = 0 then (
      some ((-1), s4))
    else (
      ob (f_Mo_isPlace a5 s4) fun r6 s6 =>
      if r6 = 0 then (
        some ((-1), s6))
      else (
        ob (f_Mo_isIn a6 1 4 s6) fun r8 s8 =>
        if r8 = 0 then (
          some ((-1), s8))
        else (
          ol (iw ((iw ((iw ((iw (6 * a1)) + a2)) * 6)) + a3)) fun x10_ =>
          l_Mo_home_67 a4 a5 a6 x10_ FU 0 1 1 s8))))
noncomputable def f_Mo_layTempers (a1 : Int) (a2 : Int) (u3 : Nat) (s0 : SS) : OO :=
  oc (0 ≤ (0 : Int) ∧ (0 : Int) < ((rN u3 : Nat) : Int)) <|
  oc (0 ≤ iw (1 + (iw (2 * a1))) ∧ iw (1 + (iw (2 * a1))) < 44) <|
  os (si s0 118 ((iw (1 + (iw (2 * a1)))).toNat) (gi s0 u3 0)) fun s4 =>
  oc (0 ≤ (1 : Int) ∧ (1 : Int) < ((rN u3 : Nat) : Int)) <|
  oc (0 ≤ iw ((iw (1 + (iw (2 * a1)))) + 1) ∧ iw ((iw (1 + (iw (2 * a1)))) + 1) < 44) <|
  os (si s4 118 ((iw ((iw (1 + (iw (2 * a1)))) + 1)).toNat) (gi s4 u3 1)) fun s8 =>
  oc (0 ≤ (2 : Int) ∧ (2 : Int) < ((rN u3 : Nat) : Int)) <|
  oc (0 ≤ iw (1 + (iw (2 * a2))) ∧ iw (1 + (iw (2 * a2))) < 44) <|
  os (si s8 118 ((iw (1 + (iw (2 * a2)))).toNat) (gi s8 u3 2)) fun s12 =>
  oc (0 ≤ (3 : Int) ∧ (3 : Int) < ((rN u3 : Nat) : Int)) <|
  oc (0 ≤ iw ((iw (1 + (iw (2 * a2)))) + 1) ∧ iw ((iw (1 + (iw (2 * a2)))) + 1) < 44) <|
  os (si s12 118 ((iw ((iw (1 + (iw (2 * a2)))) + 1)).toNat) (gi s12 u3 3)) fun s16 =>
  some (0, s16)
noncomputable def f_Mo_apart (a1 : Int) (a2 : Int) (s0 : SS) : OO :=
  if a2 ≤ a1 then (
    some (iw (a1 - a2), s0))
  else (
    some (iw (a2 - a1), s0))
noncomputable def l_Mo_changes_123 (self6 : Int → Int → SS → OO) (y1 : Int) (y2 : Int) (y3 : Int) (y4 : Int) (y5 : Int) (y6 : Int) : Nat → Int → SS → OO
  | 0, _, _ => none
  | fu + 1, x9, s0 =>
    if 4 ≤ x9 then (
      self6 y5 (iw (y6 + 1)) s0)
    else (
      oc (0 ≤ x9 ∧ x9 < 4) <|
      oc (0 ≤ x9 ∧ x9 < 4) <|
      os (si s0 129 ((x9).toNat) (gi s0 130 ((x9).toNat))) fun s6 =>
      (l_Mo_changes_123 self6 y1 y2 y3 y4 y5 y6 fu) (iw (x9 + 1)) s6)
noncomputable def j_Mo_changes_91 (self6 : Int → Int → SS → OO) (x1 : Int) (x2 : Int) (x3 : Int) (x4 : Int) (x5 : Int) (x6 : Int) (x8 : Int) (s0 : SS) : OO :=
  ob (f_Mo_layTempers x1 x2 130 s0) fun r2 s2 =>
  ob (f_Mo_openLength x1 x2 x3 s2) fun r3 s3 =>
  if r3 = x4 then (
    l_Mo_changes_123 self6 x1 x2 x3 x4 x8 x6 FU 0 s3)
  else (
    self6 x5 (iw (x6 + 1)) s3)
noncomputable def l_Mo_changes_24 (self6 : Int → Int → SS → OO) (y1 : Int) (y2 : Int) (y3 : Int) (y4 : Int) (y5 : Int) (y6 : Int) : Nat → Int → Int → Int → SS → OO
  | 0, _, _, _, _ => none
  | fu + 1, x7, x8, x9, s0 =>
    if x9 < 0 then (
      if y5 < 0 then (
        j_Mo_changes_91 self6 y1 y2 y3 y4 y5 y6 x8 s0)
      else (
        if x8 < y5 then (
          j_Mo_changes_91 self6 y1 y2 y3 y4 y5 y6 x8 s0)
        else (
          self6 y5 (iw (y6 + 1)) s0)))
    else (
      oc (0 ≤ x9 ∧ x9 < 4) <|
      os (si s0 130 ((x9).toNat) (Int.tmod x7 10)) fun s6 =>
      ol (Int.tdiv x7 10) fun x7_ =>
      oc (0 ≤ x9 ∧ x9 < 4) <|
      oc (0 ≤ x9 ∧ x9 < 4) <|
      ob (f_Mo_apart (gi s6 130 ((x9).toNat)) (gi s6 128 ((x9).toNat)) s6) fun r12 s12 =>
      ol (iw (x8 + r12)) fun x13_ =>
      (l_Mo_changes_24 self6 y1 y2 y3 y4 y5 y6 fu) x7_ x13_ (iw (x9 + (-1))) s12)
noncomputable def l_Mo_changes_6 (y1 : Int) (y2 : Int) (y3 : Int) (y4 : Int) : Nat → Int → Int → SS → OO
  | 0, _, _, _ => none
  | fu + 1, x5, x6, s0 =>
    if 10000 ≤ x6 then (
      some (x5, s0))
    else (
      l_Mo_changes_24 (l_Mo_changes_6 y1 y2 y3 y4 fu) y1 y2 y3 y4 x5 x6 FU x6 0 3 s0)
noncomputable def f_Mo_changes (a1 : Int) (a2 : Int) (a3 : Int) (a4 : Int) (s0 : SS) : OO :=
  l_Mo_changes_6 a1 a2 a3 a4 FU (-1) 0 s0
noncomputable def l_Mo_temper_128 (y5 : Int) : Nat → Int → SS → OO
  | 0, _, _ => none
  | fu + 1, x6, s0 =>
    if 4 ≤ x6 then (
      os (si s0 86 62 4) fun s2 =>
      some (y5, s2))
    else (
      oc (0 ≤ x6 ∧ x6 < 4) <|
      oc (0 ≤ x6 ∧ x6 < 12) <|
      os (si s0 122 ((x6).toNat) (gi s0 129 ((x6).toNat))) fun s7 =>
      (l_Mo_temper_128 y5 fu) (iw (x6 + 1)) s7)
noncomputable def f_Mo_temper (a1 : Int) (a2 : Int) (a3 : Int) (a4 : Int) (s0 : SS) : OO :=
  os (si s0 86 62 0) fun s1 =>
  ob (f_Mo_isCouple a1 a2 a3 s1) fun r2 s2 =>
  if r2 = 0 then (
    some ((-2), s2))
  else (
    ob (f_Mo_isIn a4 1 60 s2) fun r4 s4 =>
    if r4 = 0 then (
      some ((-2), s4))
    else (
      oc (0 ≤ iw (1 + (iw (2 * a1))) ∧ iw (1 + (iw (2 * a1))) < 44) <|
      os (si s4 128 0 (gi s4 118 ((iw (1 + (iw (2 * a1)))).toNat))) fun s9 =>
      oc (0 ≤ iw ((iw (1 + (iw (2 * a1)))) + 1) ∧ iw ((iw (1 + (iw (2 * a1)))) + 1) < 44) <|
      os (si s9 128 1 (gi s9 118 ((iw ((iw (1 + (iw (2 * a1)))) + 1)).toNat))) fun s13 =>
      oc (0 ≤ iw (1 + (iw (2 * a2))) ∧ iw (1 + (iw (2 * a2))) < 44) <|
      os (si s13 128 2 (gi s13 118 ((iw (1 + (iw (2 * a2)))).toNat))) fun s17 =>
      oc (0 ≤ iw ((iw (1 + (iw (2 * a2)))) + 1) ∧ iw ((iw (1 + (iw (2 * a2)))) + 1) < 44) <|
      os (si s17 128 3 (gi s17 118 ((iw ((iw (1 + (iw (2 * a2)))) + 1)).toNat))) fun s21 =>
      ob (f_Mo_changes a1 a2 a3 a4 s21) fun r22 s22 =>
      ob (f_Mo_layTempers a1 a2 128 s22) fun r24 s24 =>
      if 0 ≤ r22 then (
        l_Mo_temper_128 r22 FU 0 s24)
      else (
        some ((-1), s24))))
noncomputable def f_Mo_toldLength (a1 : Int) (a2 : Int) (a3 : Int) (s0 : SS) : OO :=
  os (si s0 86 54 1) fun s1 =>
  ob (f_Mo_openLength a1 a2 a3 s1) fun r2 s2 =>
  os (si s2 86 54 0) fun s3 =>
  some (r2, s3)
noncomputable def f_Mo_report (a1 : Int) (a2 : Int) (a3 : Int) (a4 : Int) (s0 : SS) : OO :=
  ob (f_Mo_isCouple a1 a2 a3 s0) fun r1 s1 =>
  if r1 = 0 then (
    some ((-1), s1))
  else (
    ob (f_Mo_isIn a4 0 2 s1) fun r3 s3 =>
    if r3 = 0 then (
      some ((-1), s3))
    else (
      if (gi s3 86 79) = 30 then (
        some ((-1), s3))
      else (
        ob (f_Mo_toldLength a1 a2 a3 s3) fun r7 s7 =>
        oc (0 ≤ gi s3 86 79 ∧ gi s3 86 79 < 30) <|
        os (si s7 131 ((gi s3 86 79).toNat) r7) fun s9 =>
        oc (0 ≤ gi s9 86 79 ∧ gi s9 86 79 < 30) <|
        os (si s9 132 ((gi s9 86 79).toNat) a4) fun s12 =>
        oc (0 ≤ gi s12 86 79 ∧ gi s12 86 79 < 30) <|
        os (si s12 133 ((gi s12 86 79).toNat) (gi s12 86 80)) fun s15 =>
        oc (0 ≤ gi s15 86 79 ∧ gi s15 86 79 < 30) <|
        os (si s15 134 ((gi s15 86 79).toNat) (-1)) fun s18 =>
        os (si s18 86 79 (iw ((gi s18 86 79) + 1))) fun s19 =>
        some (iw ((gi s19 86 79) - 1), s19))))
noncomputable def f_Mo_untell (a1 : Int) (s0 : SS) : OO :=
  ob (f_Mo_isIn a1 0 (iw ((gi s0 86 79) - 1)) s0) fun r1 s1 =>
  if r1 = 0 then (
    some (0, s1))
  else (
    oc (0 ≤ a1 ∧ a1 < 30) <|
    if (gi s1 134 ((a1).toNat)) < 0 then (
      oc (0 ≤ a1 ∧ a1 < 30) <|
      os (si s1 134 ((a1).toNat) (gi s1 86 80)) fun s8 =>
      some (1, s8))
    else (
      some (0, s1)))
noncomputable def f_Mo_later (a1 : Int) (s0 : SS) : OO :=
  ob (f_Mo_isIn a1 0 1000 s0) fun r1 s1 =>
  if r1 = 0 then (
    some ((-1), s1))
  else (
    if (iw ((gi s1 86 80) + a1)) ≤ 100000 then (
      os (si s1 86 80 (iw ((gi s1 86 80) + a1))) fun s4 =>
      some (gi s4 86 80, s4))
    else (
      some ((-1), s1)))
noncomputable def f_Mo_reported (a1 : Int) (a2 : Int) (s0 : SS) : OO :=
  if a1 < 0 then (
    some (2, s0))
  else (
    if a1 ≤ a2 then (
      if a1 = a2 then (
        some (1, s0))
      else (
        some (0, s0)))
    else (
      some (2, s0)))
noncomputable def j_Mo_isSo_39 (self2 : Int → SS → OO) (x1 : Int) (x2 : Int) (x3 : Int) (s0 : SS) : OO :=
  oc (0 ≤ x3 ∧ x3 < 30) <|
  ob (f_Mo_reported (gi s0 131 ((x3).toNat)) x1 s0) fun r3 s3 =>
  oc (0 ≤ x3 ∧ x3 < 30) <|
  if r3 = (gi s3 132 ((x3).toNat)) then (
    self2 (iw (x3 + 1)) s3)
  else (
    some (0, s3))
noncomputable def l_Mo_isSo_2 (y1 : Int) (y2 : Int) : Nat → Int → SS → OO
  | 0, _, _ => none
  | fu + 1, x3, s0 =>
    if (gi s0 86 79) ≤ x3 then (
      some (1, s0))
    else (
      oc (0 ≤ x3 ∧ x3 < 30) <|
      if y2 < (gi s0 133 ((x3).toNat)) then (
        (l_Mo_isSo_2 y1 y2 fu) (iw (x3 + 1)) s0)
      else (
        oc (0 ≤ x3 ∧ x3 < 30) <|
        if (gi s0 134 ((x3).toNat)) < 0 then (
          j_Mo_isSo_39 (l_Mo_isSo_2 y1 y2 fu) y1 y2 x3 s0)
        else (
          oc (0 ≤ x3 ∧ x3 < 30) <|
          if (gi s0 134 ((x3).toNat)) ≤ y2 then (
            (l_Mo_isSo_2 y1 y2 fu) (iw (x3 + 1)) s0)
          else (
            j_Mo_isSo_39 (l_Mo_isSo_2 y1 y2 fu) y1 y2 x3 s0))))
noncomputable def f_Mo_isSo (a1 : Int) (a2 : Int) (s0 : SS) : OO :=
  l_Mo_isSo_2 a1 a2 FU 0 s0
noncomputable def l_Mo_miles_5 (y1 : Int) : Nat → Int → Int → SS → OO
  | 0, _, _, _ => none
  | fu + 1, x2, x4, s0 =>
    if 60 < x4 then (
      some (x2, s0))
    else (
      ob (f_Mo_isSo x4 y1 s0) fun r2 s2 =>
      if r2 = 0 then (
        (l_Mo_miles_5 y1 fu) x2 (iw (x4 + 1)) s2)
      else (
        ol (yor x2 (yshl 1 (iw (x4 - 1)))) fun x4_ =>
        (l_Mo_miles_5 y1 fu) x4_ (iw (x4 + 1)) s2))
noncomputable def f_Mo_miles (a1 : Int) (s0 : SS) : OO :=
  l_Mo_miles_5 a1 FU 0 1 s0
noncomputable def j_Mo_mostLeft_116  (z0 : Int) (s0 : SS) : OO :=
  if (gi s0 135 2) ≤ z0 then (
    some (z0, s0))
  else (
    some (gi s0 135 2, s0))
noncomputable def l_Mo_mostLeft_44 (y2 : Int) (y4 : Int) : Nat → Int → SS → OO
  | 0, _, _ => none
  | fu + 1, x5, s0 =>
    if 60 < x5 then (
      if (gi s0 135 0) ≤ (gi s0 135 1) then (
        j_Mo_mostLeft_116 (gi s0 135 1) s0)
      else (
        j_Mo_mostLeft_116 (gi s0 135 0) s0))
    else (
      if (ycmp (yand (yshr y2 (iw (x5 - 1))) 1) 1) = 0 then (
        ob (f_Mo_reported y4 x5 s0) fun r9 s9 =>
        oc (0 ≤ r9 ∧ r9 < 3) <|
        oc (0 ≤ r9 ∧ r9 < 3) <|
        os (si s9 135 ((r9).toNat) (iw ((gi s9 135 ((r9).toNat)) + 1))) fun s12 =>
        (l_Mo_mostLeft_44 y2 y4 fu) (iw (x5 + 1)) s12)
      else (
        (l_Mo_mostLeft_44 y2 y4 fu) (iw (x5 + 1)) s0))
noncomputable def l_Mo_mostLeft_21 (y2 : Int) (y4 : Int) : Nat → Int → SS → OO
  | 0, _, _ => none
  | fu + 1, x5, s0 =>
    if 3 ≤ x5 then (
      l_Mo_mostLeft_44 y2 y4 FU 1 s0)
    else (
      oc (0 ≤ x5 ∧ x5 < 3) <|
      os (si s0 135 ((x5).toNat) 0) fun s4 =>
      (l_Mo_mostLeft_21 y2 y4 fu) (iw (x5 + 1)) s4)
noncomputable def f_Mo_mostLeft (a1 : Int) (a2 : Int) (s0 : SS) : OO :=
  ob (f_Mo_firstOf a1 s0) fun r1 s1 =>
  ob (f_Mo_otherOf a1 s1) fun r2 s2 =>
  ob (f_Mo_matterOf a1 s2) fun r3 s3 =>
  ob (f_Mo_toldLength r1 r2 r3 s3) fun r4 s4 =>
  l_Mo_mostLeft_21 a2 r4 FU 0 s4
noncomputable def j_Mo_ask_77 (self32 : Int → Int → Int → SS → OO) (x1 : Int) (x3 : Int) (x7 : Int) (x8 : Int) (s0 : SS) : OO :=
  self32 x7 x8 (iw (x7 + 1)) s0
noncomputable def l_Mo_ask_32 (y1 : Int) (y3 : Int) : Nat → Int → Int → Int → SS → OO
  | 0, _, _, _, _ => none
  | fu + 1, x5, x6, x7, s0 =>
    ob (f_Mo_coupleMany s0) fun r1 s1 =>
    if r1 ≤ x7 then (
      if 0 ≤ x5 then (
        if y1 = 0 then (
          ob (f_Mo_firstOf x5 s1) fun r5 s5 =>
          ob (f_Mo_otherOf x5 s5) fun r6 s6 =>
          ob (f_Mo_matterOf x5 s6) fun r7 s7 =>
          some (iw ((iw ((iw (100 * r5)) + (iw (10 * r6)))) + r7), s7))
        else (
          some (x6, s1)))
      else (
        some ((-1), s1)))
    else (
      ob (f_Mo_canBe x7 s1) fun r8 s8 =>
      if r8 = 0 then (
        (l_Mo_ask_32 y1 y3 fu) x5 x6 (iw (x7 + 1)) s8)
      else (
        ob (f_Mo_mostLeft x7 y3 s8) fun r10 s10 =>
        if x5 < 0 then (
          j_Mo_ask_77 (l_Mo_ask_32 y1 y3 fu) y1 y3 x7 r10 s10)
        else (
          if r10 < x6 then (
            j_Mo_ask_77 (l_Mo_ask_32 y1 y3 fu) y1 y3 x7 r10 s10)
          else (
            (l_Mo_ask_32 y1 y3 fu) x5 x6 (iw (x7 + 1)) s10))))
noncomputable def f_Mo_ask (a1 : Int) (a2 : Int) (s0 : SS) : OO :=
  ob (f_Mo_miles a2 s0) fun r1 s1 =>
  ob (f_Mo_isIn a1 0 1 s1) fun r2 s2 =>
  if r2 = 0 then (
    some ((-1), s2))
  else (
    if (ycmp r1 0) = 0 then (
      some ((-1), s2))
    else (
      l_Mo_ask_32 a1 r1 FU (-1) 0 0 s2))
noncomputable def f_Mo_wordsInAll  (s0 : SS) : OO :=
  ob (f_Mo_doWalk s0) fun r1 s1 =>
  if r1 = 0 then (
    some (0, s1))
  else (
    some (gi s1 118 19, s1))
noncomputable def l_Mo_image_13 (y1 : Int) : Nat → Int → SS → OO
  | 0, _, _ => none
  | fu + 1, x2, s0 =>
    if 44 ≤ x2 then (
      oc (0 ≤ y1 ∧ y1 < 3) <|
      os (si s0 137 ((y1).toNat) 1) fun s4 =>
      ob (f_Mo_wordsInAll s4) fun r5 s5 =>
      some (r5, s5))
    else (
      oc (0 ≤ x2 ∧ x2 < 44) <|
      oc (0 ≤ iw ((iw (44 * y1)) + x2) ∧ iw ((iw (44 * y1)) + x2) < 132) <|
      os (si s0 136 ((iw ((iw (44 * y1)) + x2)).toNat) (gi s0 118 ((x2).toNat))) fun s10 =>
      (l_Mo_image_13 y1 fu) (iw (x2 + 1)) s10)
noncomputable def f_Mo_image (a1 : Int) (s0 : SS) : OO :=
  ob (f_Mo_isIn a1 0 2 s0) fun r1 s1 =>
  if r1 = 0 then (
    some ((-1), s1))
  else (
    l_Mo_image_13 a1 FU 0 s1)
noncomputable def l_Mo_back_22 (y1 : Int) : Nat → Int → SS → OO
  | 0, _, _ => none
  | fu + 1, x2, s0 =>
    if 44 ≤ x2 then (
      os (si s0 86 56 0) fun s2 =>
      os (si s2 86 57 0) fun s3 =>
      ob (f_Mo_wordsInAll s3) fun r4 s4 =>
      some (r4, s4))
    else (
      oc (0 ≤ iw ((iw (44 * y1)) + x2) ∧ iw ((iw (44 * y1)) + x2) < 132) <|
      oc (0 ≤ x2 ∧ x2 < 44) <|
      os (si s0 118 ((x2).toNat) (gi s0 136 ((iw ((iw (44 * y1)) + x2)).toNat))) fun s9 =>
      (l_Mo_back_22 y1 fu) (iw (x2 + 1)) s9)
noncomputable def f_Mo_back (a1 : Int) (s0 : SS) : OO :=
  ob (f_Mo_isIn a1 0 2 s0) fun r1 s1 =>
  if r1 = 0 then (
    some ((-1), s1))
  else (
    oc (0 ≤ a1 ∧ a1 < 3) <|
    if (gi s1 137 ((a1).toNat)) = 0 then (
      some ((-1), s1))
    else (
      l_Mo_back_22 a1 FU 0 s1))
noncomputable def f_Mo_about (a1 : Int) (s0 : SS) : OO :=
  if a1 = 0 then (
    oc (0 ≤ gi s0 86 40 ∧ gi s0 86 40 < 2) <|
    some (gi s0 89 ((gi s0 86 40).toNat), s0))
  else   if a1 = 1 then (
      oc (0 ≤ gi s0 86 40 ∧ gi s0 86 40 < 2) <|
      some (gi s0 90 ((gi s0 86 40).toNat), s0))
  else   if a1 = 2 then (
        ob (f_Mo_soulMany s0) fun r8 s8 =>
        some (r8, s8))
  else   if a1 = 3 then (
          oc (0 ≤ gi s0 86 40 ∧ gi s0 86 40 < 2) <|
          some (gi s0 92 ((gi s0 86 40).toNat), s0))
  else   if a1 = 4 then (
            some (gi s0 118 0, s0))
  else   if a1 = 5 then (
              some (gi s0 86 56, s0))
  else   if a1 = 6 then (
                some (gi s0 86 57, s0))
  else   if a1 = 7 then (
                  if 0 ≤ (gi s0 86 60) then (
                    some (gi s0 86 61, s0))
                  else (
                    some ((-1), s0)))
  else   if a1 = 8 then (
                    if 0 ≤ (gi s0 86 60) then (
                      ob (f_Mo_routeEnd s0) fun r20 s20 =>
                      some (r20, s20))
                    else (
                      some ((-1), s0)))
  else   if a1 = 9 then (
                      some (gi s0 86 79, s0))
  else   if a1 = 10 then (
                        some (gi s0 86 80, s0))
  else   if a1 = 11 then (
                          some (gi s0 86 2, s0))
  else   if a1 = 12 then (
                            oc (0 ≤ gi s0 86 40 ∧ gi s0 86 40 < 2) <|
                            some (gi s0 93 ((gi s0 86 40).toNat), s0))
  else   if a1 = 13 then (
                              some (gi s0 86 62, s0))
  else (
                              some ((-1), s0))
noncomputable def j_Mo_feed_71 (self18 : Int → SS → OO) (x1 : Int) (x2 : Int) (x3 : Int) (x4 : Int) (x5 : Int) (x6 : Int) (z0 : Int) (s0 : SS) : OO :=
  oc (0 ≤ iw ((gi s0 86 2) + x6) ∧ iw ((gi s0 86 2) + x6) < 1620) <|
  os (si s0 87 ((iw ((gi s0 86 2) + x6)).toNat) (zi2b (zi2b (zshr z0 (iw (24 - (iw (8 * (zand x6 3))))))))) fun s3 =>
  self18 (iw (x6 + 1)) s3
noncomputable def l_Mo_feed_18 (y1 : Int) (y2 : Int) (y3 : Int) (y4 : Int) (y5 : Int) : Nat → Int → SS → OO
  | 0, _, _ => none
  | fu + 1, x6, s0 =>
    if 20 ≤ x6 then (
      os (si s0 86 2 (iw ((gi s0 86 2) + 20))) fun s2 =>
      some (gi s2 86 2, s2))
    else (
      if 4 ≤ x6 then (
        if 8 ≤ x6 then (
          if 12 ≤ x6 then (
            if 16 ≤ x6 then (
              j_Mo_feed_71 (l_Mo_feed_18 y1 y2 y3 y4 y5 fu) y1 y2 y3 y4 y5 x6 y5 s0)
            else (
              j_Mo_feed_71 (l_Mo_feed_18 y1 y2 y3 y4 y5 fu) y1 y2 y3 y4 y5 x6 y4 s0))
          else (
            j_Mo_feed_71 (l_Mo_feed_18 y1 y2 y3 y4 y5 fu) y1 y2 y3 y4 y5 x6 y3 s0))
        else (
          j_Mo_feed_71 (l_Mo_feed_18 y1 y2 y3 y4 y5 fu) y1 y2 y3 y4 y5 x6 y2 s0))
      else (
        j_Mo_feed_71 (l_Mo_feed_18 y1 y2 y3 y4 y5 fu) y1 y2 y3 y4 y5 x6 y1 s0))
noncomputable def f_Mo_feed (a1 : Int) (a2 : Int) (a3 : Int) (a4 : Int) (a5 : Int) (s0 : SS) : OO :=
  if (iw ((gi s0 86 2) + 20)) ≤ 1600 then (
    l_Mo_feed_18 a1 a2 a3 a4 a5 FU 0 s0)
  else (
    some ((-1), s0))
noncomputable def f_Mo_end (a1 : Int) (s0 : SS) : OO :=
  if a1 < 0 then (
    some ((-1), s0))
  else (
    if a1 ≤ (gi s0 86 2) then (
      os (si s0 86 2 a1) fun s3 =>
      some (a1, s3))
    else (
      some ((-1), s0)))
set_option maxRecDepth 20000 in
theorem m_Mo_sign {l : Launch} {D : va_G} {cs : Nat → ClassId} {aS aV : Nat} {A : Nat → Prop} {ad : Nat → Nat} {n : Nat} {nl : Nat → Nat → Bool} {out : Int × SS} (hw : w_WH n nl) (ht : 86 < n) {a1 : Int} (ra1 : rI a1) {s0 : SS} (hs0 : rS s0) (hf : f_Mo_sign a1 s0 = some out) : w_MC l D cs aS aV A yX12_sign cX12_sign 2 1 rm_Mo_sign ad n nl [.ref (ad 86), .int (vI a1)] s0 (w_Po ad n nl out) := by
  refine w_MC_of (by decide +kernel) (by decide) hs0 (Nat.le_of_ble_eq_true rfl) (fun K h hr => ?_)
  refine r_lv (lv' := [(0, .ref (ad 86)), (1, .int (vI a1))]) rfl ?_
  unfold f_Mo_sign at hf
  refine r_rS h (fun hs0 => ?_)
  refine r_iload_n h dX12_sign_0 rfl 1 rfl ?_
  refine r_aload_n h dX12_sign_1 rfl 0 rfl ?_
  refine g_X12_179 h dX12_sign_2 ht rC_86 ?_
  refine r_icmp_ge (tgt := 21) h dX12_sign_5 (by decide) ra1 (hs0.1 _ _) (fun hc1 => ?_) (fun hc1 => ?_)
  · have hf := ite_t hc1 hf
    refine r_iconst h dX12_sign_21 ?_
    exact r_ret1 hr dX12_sign_22 (rIc rfl) hf
  · have hf := ite_f hc1 hf
    refine r_aload_n h dX12_sign_8 rfl 0 rfl ?_
    have hq2 := w_ref hw ht rC_86 (by decide) (k := 1) (by decide) rf_12_1
    refine g_X12_13 h dX12_sign_9 ht rC_86 hq2.1 ?_
    refine r_iload_n h dX12_sign_12 rfl 1 rfl ?_
    obtain ⟨hi3, hf⟩ := oc_some hf
    refine r_bald h dX12_sign_13 hq2.2 rC_88 ra1 (N := 1600) (by rw [rN_88]; rfl) (j := (a1).toNat) rfl hi3 ?_
    refine r_sipush h dX12_sign_14 (by decide) ?_
    refine r_iand h dX12_sign_17 ?_
    refine r_goto (tgt := 22) h dX12_sign_18 (by decide) ?_
    exact r_ret1 hr dX12_sign_22 (rI_zand _ _) hf
set_option maxRecDepth 20000 in
theorem m_Mo_isLetter {l : Launch} {D : va_G} {cs : Nat → ClassId} {aS aV : Nat} {A : Nat → Prop} {ad : Nat → Nat} {n : Nat} {nl : Nat → Nat → Bool} {out : Int × SS} (hw : w_WH n nl) {a1 : Int} (ra1 : rI a1) {s0 : SS} (hs0 : rS s0) (hf : f_Mo_isLetter a1 s0 = some out) : w_MC l D cs aS aV A yX12_isLetter cX12_isLetter 1 2 rm_Mo_isLetter ad n nl [.int (vI a1)] s0 (w_Po ad n nl out) := by
  refine w_MC_of (by decide +kernel) (by decide) hs0 (Nat.le_of_ble_eq_true rfl) (fun K h hr => ?_)
  refine r_lv (lv' := [(0, .int (vI a1))]) rfl ?_
  unfold f_Mo_isLetter at hf
  refine r_rS h (fun hs0 => ?_)
  refine r_iload_n h dX12_isLetter_0 rfl 0 rfl ?_
  refine r_bipush h dX12_isLetter_1 (by decide) ?_
  refine r_icmp_lt (tgt := 16) h dX12_isLetter_3 (by decide) ra1 (rIc rfl) (fun hc1 => ?_) (fun hc1 => ?_)
  · have hf := ite_t hc1 hf
    refine r_iconst h dX12_isLetter_16 ?_
    exact r_ret2 hr dX12_isLetter_17 (Or.inl rfl) hf
  · have hf := ite_f hc1 hf
    refine r_iload_n h dX12_isLetter_6 rfl 0 rfl ?_
    refine r_bipush h dX12_isLetter_7 (by decide) ?_
    refine r_icmp_gt (tgt := 16) h dX12_isLetter_9 (by decide) ra1 (rIc rfl) (fun hc2 => ?_) (fun hc2 => ?_)
    · have hf := ite_t hc2 hf
      refine r_iconst h dX12_isLetter_16 ?_
      exact r_ret2 hr dX12_isLetter_17 (Or.inl rfl) hf
    · have hf := ite_f hc2 hf
      refine r_iconst h dX12_isLetter_12 ?_
      refine r_goto (tgt := 17) h dX12_isLetter_13 (by decide) ?_
      exact r_ret2 hr dX12_isLetter_17 (Or.inr rfl) hf
set_option maxRecDepth 20000 in
theorem m_Mo_isDigit {l : Launch} {D : va_G} {cs : Nat → ClassId} {aS aV : Nat} {A : Nat → Prop} {ad : Nat → Nat} {n : Nat} {nl : Nat → Nat → Bool} {out : Int × SS} (hw : w_WH n nl) {a1 : Int} (ra1 : rI a1) {s0 : SS} (hs0 : rS s0) (hf : f_Mo_isDigit a1 s0 = some out) : w_MC l D cs aS aV A yX12_isDigit cX12_isDigit 1 2 rm_Mo_isDigit ad n nl [.int (vI a1)] s0 (w_Po ad n nl out) := by
  refine w_MC_of (by decide +kernel) (by decide) hs0 (Nat.le_of_ble_eq_true rfl) (fun K h hr => ?_)
  refine r_lv (lv' := [(0, .int (vI a1))]) rfl ?_
  unfold f_Mo_isDigit at hf
  refine r_rS h (fun hs0 => ?_)
  refine r_iload_n h dX12_isDigit_0 rfl 0 rfl ?_
  refine r_bipush h dX12_isDigit_1 (by decide) ?_
  refine r_icmp_lt (tgt := 16) h dX12_isDigit_3 (by decide) ra1 (rIc rfl) (fun hc1 => ?_) (fun hc1 => ?_)
  · have hf := ite_t hc1 hf
    refine r_iconst h dX12_isDigit_16 ?_
    exact r_ret2 hr dX12_isDigit_17 (Or.inl rfl) hf
  · have hf := ite_f hc1 hf
    refine r_iload_n h dX12_isDigit_6 rfl 0 rfl ?_
    refine r_bipush h dX12_isDigit_7 (by decide) ?_
    refine r_icmp_gt (tgt := 16) h dX12_isDigit_9 (by decide) ra1 (rIc rfl) (fun hc2 => ?_) (fun hc2 => ?_)
    · have hf := ite_t hc2 hf
      refine r_iconst h dX12_isDigit_16 ?_
      exact r_ret2 hr dX12_isDigit_17 (Or.inl rfl) hf
    · have hf := ite_f hc2 hf
      refine r_iconst h dX12_isDigit_12 ?_
      refine r_goto (tgt := 17) h dX12_isDigit_13 (by decide) ?_
      exact r_ret2 hr dX12_isDigit_17 (Or.inr rfl) hf
set_option maxRecDepth 20000 in
theorem m_Mo_fails {l : Launch} {D : va_G} {cs : Nat → ClassId} {aS aV : Nat} {A : Nat → Prop} {ad : Nat → Nat} {n : Nat} {nl : Nat → Nat → Bool} {out : Int × SS} (hw : w_WH n nl) (ht : 86 < n) {a1 : Int} (ra1 : rI a1) {a2 : Int} (ra2 : rI a2) {s0 : SS} (hs0 : rS s0) (hf : f_Mo_fails a1 a2 s0 = some out) : w_MC l D cs aS aV A yX12_fails cX12_fails 3 0 rm_Mo_fails ad n nl [.ref (ad 86), .int (vI a1), .int (vI a2)] s0 (w_Po ad n nl out) := by
  refine w_MC_of (by decide +kernel) (by decide) hs0 (Nat.le_of_ble_eq_true rfl) (fun K h hr => ?_)
  refine r_lv (lv' := [(0, .ref (ad 86)), (1, .int (vI a1)), (2, .int (vI a2))]) rfl ?_
  unfold f_Mo_fails at hf
  refine r_rS h (fun hs0 => ?_)
  refine r_aload_n h dX12_fails_0 rfl 0 rfl ?_
  refine g_X12_182 h dX12_fails_1 ht rC_86 ?_
  refine r_if_le (tgt := 8) h dX12_fails_4 (by decide) (hs0.1 _ _) (fun hc1 => ?_) (fun hc1 => ?_)
  · have hf := ite_t hc1 hf
    refine r_aload_n h dX12_fails_8 rfl 0 rfl ?_
    refine r_iload_n h dX12_fails_9 rfl 1 rfl ?_
    refine p_X12_182 h dX12_fails_10 ht rC_86 ra1 ?_
    refine r_os hf (fun s2 hf => ?_)
    refine r_rS h (fun hs2 => ?_)
    refine r_aload_n h dX12_fails_13 rfl 0 rfl ?_
    refine r_iload_n h dX12_fails_14 rfl 2 rfl ?_
    refine p_X12_16 h dX12_fails_15 ht rC_86 ra2 ?_
    refine r_os hf (fun s3 hf => ?_)
    refine r_rS h (fun hs3 => ?_)
    exact r_ret0 (x := 0) hr dX12_fails_18 hf
  · have hf := ite_f hc1 hf
    exact r_ret0 (x := 0) hr dX12_fails_7 hf
set_option maxRecDepth 20000 in
theorem m_Mo_isGood {l : Launch} {D : va_G} {cs : Nat → ClassId} {aS aV : Nat} {A : Nat → Prop} {ad : Nat → Nat} {n : Nat} {nl : Nat → Nat → Bool} {out : Int × SS} (hw : w_WH n nl) (ht : 86 < n) {s0 : SS} (hs0 : rS s0) (hf : f_Mo_isGood s0 = some out) : w_MC l D cs aS aV A yX12_isGood cX12_isGood 1 2 rm_Mo_isGood ad n nl [.ref (ad 86)] s0 (w_Po ad n nl out) := by
  refine w_MC_of (by decide +kernel) (by decide) hs0 (Nat.le_of_ble_eq_true rfl) (fun K h hr => ?_)
  refine r_lv (lv' := [(0, .ref (ad 86))]) rfl ?_
  unfold f_Mo_isGood at hf
  refine r_rS h (fun hs0 => ?_)
  refine r_aload_n h dX12_isGood_0 rfl 0 rfl ?_
  refine g_X12_182 h dX12_isGood_1 ht rC_86 ?_
  refine r_if_ne (tgt := 11) h dX12_isGood_4 (by decide) (hs0.1 _ _) (fun hc1 => ?_) (fun hc1 => ?_)
  · have hf := ite_f hc1 hf
    refine r_iconst h dX12_isGood_11 ?_
    exact r_ret2 hr dX12_isGood_12 (Or.inl rfl) hf
  · have hf := ite_nf hc1 hf
    refine r_iconst h dX12_isGood_7 ?_
    refine r_goto (tgt := 12) h dX12_isGood_8 (by decide) ?_
    exact r_ret2 hr dX12_isGood_12 (Or.inr rfl) hf
set_option maxRecDepth 20000 in
theorem b_Mo_isKept_93 {l : Launch} {D : va_G} {cs : Nat → ClassId} {aS aV : Nat} {A : Nat → Prop} {K : KT} {ad : Nat → Nat} {n : Nat} {nl : Nat → Nat → Bool} {out : Int × SS} (h : w_Cl l rm_Mo_isKept D cs aS aV A cX12_isKept 3 RX12 "isKept" K) (hr : w_Rt 2 cX12_isKept 0 0 (w_Po ad n nl out) K) (hw : w_WH n nl)  (x0 : Int) (z0 : Int) (s0 : SS) (rx0 : rJ x0) (rz0 : rI z0) (hf : j_Mo_isKept_93 x0 z0 s0 = some out) : K ad n nl 0 0 93 [(0, .long (vJ x0))] [.int (vI z0)] s0 := by
  unfold j_Mo_isKept_93 at hf
  refine r_rS h (fun hs0 => ?_)
  refine r_istore_n h [(2, .int (vI z0)), (0, .long (vJ x0))] dX12_isKept_93 rfl (by decide) rfl ?_
  refine r_iload_n h dX12_isKept_94 rfl 0 rfl ?_
  refine r_if_ne (tgt := 178) h dX12_isKept_95 (by decide) rz0 (fun hc1 => ?_) (fun hc1 => ?_)
  · have hf := ite_f hc1 hf
    refine r_iconst h dX12_isKept_178 ?_
    refine r_goto (tgt := 183) h dX12_isKept_179 (by decide) ?_
    exact r_ret2 hr dX12_isKept_183 (Or.inr rfl) hf
  · have hf := ite_nf hc1 hf
    refine r_lload_n h dX12_isKept_98 rfl 1 rfl ?_
    refine r_ldc2 (x := 28518) h dX12_isKept_99 (gt_in7 135 rfl rfl) rfl ?_
    refine r_lcmp h dX12_isKept_102 rx0 (rJc rfl) ?_
    refine r_if_eq (tgt := 178) h dX12_isKept_103 (by decide) (rI_ycmp _ _) (fun hc2 => ?_) (fun hc2 => ?_)
    · have hf := ite_t hc2 hf
      refine r_iconst h dX12_isKept_178 ?_
      refine r_goto (tgt := 183) h dX12_isKept_179 (by decide) ?_
      exact r_ret2 hr dX12_isKept_183 (Or.inr rfl) hf
    · have hf := ite_f hc2 hf
      refine r_lload_n h dX12_isKept_106 rfl 1 rfl ?_
      refine r_ldc2 (x := 1751474548) h dX12_isKept_107 (gt_in7 136 rfl rfl) rfl ?_
      refine r_lcmp h dX12_isKept_110 rx0 (rJc rfl) ?_
      refine r_if_eq (tgt := 178) h dX12_isKept_111 (by decide) (rI_ycmp _ _) (fun hc3 => ?_) (fun hc3 => ?_)
      · have hf := ite_t hc3 hf
        refine r_iconst h dX12_isKept_178 ?_
        refine r_goto (tgt := 183) h dX12_isKept_179 (by decide) ?_
        exact r_ret2 hr dX12_isKept_183 (Or.inr rfl) hf
      · have hf := ite_f hc3 hf
        refine r_lload_n h dX12_isKept_114 rfl 1 rfl ?_
        refine r_ldc2 (x := 1650549611) h dX12_isKept_115 (gt_in7 137 rfl rfl) rfl ?_
        refine r_lcmp h dX12_isKept_118 rx0 (rJc rfl) ?_
        refine r_if_eq (tgt := 178) h dX12_isKept_119 (by decide) (rI_ycmp _ _) (fun hc4 => ?_) (fun hc4 => ?_)
        · have hf := ite_t hc4 hf
          refine r_iconst h dX12_isKept_178 ?_
          refine r_goto (tgt := 183) h dX12_isKept_179 (by decide) ?_
          exact r_ret2 hr dX12_isKept_183 (Or.inr rfl) hf
        · have hf := ite_f hc4 hf
          refine r_lload_n h dX12_isKept_122 rfl 1 rfl ?_
          refine r_ldc2 (x := 1685217655) h dX12_isKept_123 (gt_in7 138 rfl rfl) rfl ?_
          refine r_lcmp h dX12_isKept_126 rx0 (rJc rfl) ?_
          refine r_if_eq (tgt := 178) h dX12_isKept_127 (by decide) (rI_ycmp _ _) (fun hc5 => ?_) (fun hc5 => ?_)
          · have hf := ite_t hc5 hf
            refine r_iconst h dX12_isKept_178 ?_
            refine r_goto (tgt := 183) h dX12_isKept_179 (by decide) ?_
            exact r_ret2 hr dX12_isKept_183 (Or.inr rfl) hf
          · have hf := ite_f hc5 hf
            refine r_lload_n h dX12_isKept_130 rfl 1 rfl ?_
            refine r_ldc2 (x := 444301141350) h dX12_isKept_131 (gt_in7 139 rfl rfl) rfl ?_
            refine r_lcmp h dX12_isKept_134 rx0 (rJc rfl) ?_
            refine r_if_eq (tgt := 178) h dX12_isKept_135 (by decide) (rI_ycmp _ _) (fun hc6 => ?_) (fun hc6 => ?_)
            · have hf := ite_t hc6 hf
              refine r_iconst h dX12_isKept_178 ?_
              refine r_goto (tgt := 183) h dX12_isKept_179 (by decide) ?_
              exact r_ret2 hr dX12_isKept_183 (Or.inr rfl) hf
            · have hf := ite_f hc6 hf
              refine r_lload_n h dX12_isKept_138 rfl 1 rfl ?_
              refine r_ldc2 (x := 1835625573) h dX12_isKept_139 (gt_in7 140 rfl rfl) rfl ?_
              refine r_lcmp h dX12_isKept_142 rx0 (rJc rfl) ?_
              refine r_if_eq (tgt := 178) h dX12_isKept_143 (by decide) (rI_ycmp _ _) (fun hc7 => ?_) (fun hc7 => ?_)
              · have hf := ite_t hc7 hf
                refine r_iconst h dX12_isKept_178 ?_
                refine r_goto (tgt := 183) h dX12_isKept_179 (by decide) ?_
                exact r_ret2 hr dX12_isKept_183 (Or.inr rfl) hf
              · have hf := ite_f hc7 hf
                refine r_lload_n h dX12_isKept_146 rfl 1 rfl ?_
                refine r_ldc2 (x := 1818584692) h dX12_isKept_147 (gt_in7 141 rfl rfl) rfl ?_
                refine r_lcmp h dX12_isKept_150 rx0 (rJc rfl) ?_
                refine r_if_eq (tgt := 178) h dX12_isKept_151 (by decide) (rI_ycmp _ _) (fun hc8 => ?_) (fun hc8 => ?_)
                · have hf := ite_t hc8 hf
                  refine r_iconst h dX12_isKept_178 ?_
                  refine r_goto (tgt := 183) h dX12_isKept_179 (by decide) ?_
                  exact r_ret2 hr dX12_isKept_183 (Or.inr rfl) hf
                · have hf := ite_f hc8 hf
                  refine r_lload_n h dX12_isKept_154 rfl 1 rfl ?_
                  refine r_ldc2 (x := 28530) h dX12_isKept_155 (gt_in7 142 rfl rfl) rfl ?_
                  refine r_lcmp h dX12_isKept_158 rx0 (rJc rfl) ?_
                  refine r_if_eq (tgt := 178) h dX12_isKept_159 (by decide) (rI_ycmp _ _) (fun hc9 => ?_) (fun hc9 => ?_)
                  · have hf := ite_t hc9 hf
                    refine r_iconst h dX12_isKept_178 ?_
                    refine r_goto (tgt := 183) h dX12_isKept_179 (by decide) ?_
                    exact r_ret2 hr dX12_isKept_183 (Or.inr rfl) hf
                  · have hf := ite_f hc9 hf
                    refine r_lload_n h dX12_isKept_162 rfl 1 rfl ?_
                    refine r_ldc2 (x := 6385252) h dX12_isKept_163 (gt_in7 143 rfl rfl) rfl ?_
                    refine r_lcmp h dX12_isKept_166 rx0 (rJc rfl) ?_
                    refine r_if_eq (tgt := 178) h dX12_isKept_167 (by decide) (rI_ycmp _ _) (fun hc10 => ?_) (fun hc10 => ?_)
                    · have hf := ite_t hc10 hf
                      refine r_iconst h dX12_isKept_178 ?_
                      refine r_goto (tgt := 183) h dX12_isKept_179 (by decide) ?_
                      exact r_ret2 hr dX12_isKept_183 (Or.inr rfl) hf
                    · have hf := ite_f hc10 hf
                      refine r_lload_n h dX12_isKept_170 rfl 1 rfl ?_
                      refine r_ldc2 (x := 7237492) h dX12_isKept_171 (gt_in7 144 rfl rfl) rfl ?_
                      refine r_lcmp h dX12_isKept_174 rx0 (rJc rfl) ?_
                      refine r_if_ne (tgt := 182) h dX12_isKept_175 (by decide) (rI_ycmp _ _) (fun hc11 => ?_) (fun hc11 => ?_)
                      · have hf := ite_f hc11 hf
                        refine r_iconst h dX12_isKept_182 ?_
                        exact r_ret2 hr dX12_isKept_183 (Or.inl rfl) hf
                      · have hf := ite_nf hc11 hf
                        refine r_iconst h dX12_isKept_178 ?_
                        refine r_goto (tgt := 183) h dX12_isKept_179 (by decide) ?_
                        exact r_ret2 hr dX12_isKept_183 (Or.inr rfl) hf
set_option maxRecDepth 20000 in
theorem b_Mo_isKept_88 {l : Launch} {D : va_G} {cs : Nat → ClassId} {aS aV : Nat} {A : Nat → Prop} {K : KT} {ad : Nat → Nat} {n : Nat} {nl : Nat → Nat → Bool} {out : Int × SS} (h : w_Cl l rm_Mo_isKept D cs aS aV A cX12_isKept 3 RX12 "isKept" K) (hr : w_Rt 2 cX12_isKept 0 0 (w_Po ad n nl out) K) (hw : w_WH n nl)  (x0 : Int) (s0 : SS) (rx0 : rJ x0) (hf : j_Mo_isKept_88 x0 s0 = some out) : K ad n nl 0 0 88 [(0, .long (vJ x0))] [] s0 := by
  unfold j_Mo_isKept_88 at hf
  refine r_rS h (fun hs0 => ?_)
  refine r_iconst h dX12_isKept_88 ?_
  refine r_goto (tgt := 93) h dX12_isKept_89 (by decide) ?_
  exact b_Mo_isKept_93 h hr hw x0 1 s0 rx0 (rIc rfl) hf
set_option maxRecDepth 20000 in
theorem m_Mo_isKept {l : Launch} {D : va_G} {cs : Nat → ClassId} {aS aV : Nat} {A : Nat → Prop} {ad : Nat → Nat} {n : Nat} {nl : Nat → Nat → Bool} {out : Int × SS} (hw : w_WH n nl) {a1 : Int} (ra1 : rJ a1) {s0 : SS} (hs0 : rS s0) (hf : f_Mo_isKept a1 s0 = some out) : w_MC l D cs aS aV A yX12_isKept cX12_isKept 3 2 rm_Mo_isKept ad n nl [.long (vJ a1)] s0 (w_Po ad n nl out) := by
  refine w_MC_of (by decide +kernel) (by decide) hs0 (Nat.le_of_ble_eq_true rfl) (fun K h hr => ?_)
  refine r_lv (lv' := [(0, .long (vJ a1))]) rfl ?_
  unfold f_Mo_isKept at hf
  refine r_rS h (fun hs0 => ?_)
  refine r_lload_n h dX12_isKept_0 rfl 0 rfl ?_
  refine r_ldc2 (x := 482854658917) h dX12_isKept_1 (gt_in7 124 rfl rfl) rfl ?_
  refine r_lcmp h dX12_isKept_4 ra1 (rJc rfl) ?_
  refine r_if_eq (tgt := 88) h dX12_isKept_5 (by decide) (rI_ycmp _ _) (fun hc1 => ?_) (fun hc1 => ?_)
  · have hf := ite_t hc1 hf
    exact b_Mo_isKept_88 h hr hw a1 s0 ra1 hf
  · have hf := ite_f hc1 hf
    refine r_lload_n h dX12_isKept_8 rfl 0 rfl ?_
    refine r_ldc2 (x := 1667329133) h dX12_isKept_9 (gt_in7 125 rfl rfl) rfl ?_
    refine r_lcmp h dX12_isKept_12 ra1 (rJc rfl) ?_
    refine r_if_eq (tgt := 88) h dX12_isKept_13 (by decide) (rI_ycmp _ _) (fun hc2 => ?_) (fun hc2 => ?_)
    · have hf := ite_t hc2 hf
      exact b_Mo_isKept_88 h hr hw a1 s0 ra1 hf
    · have hf := ite_f hc2 hf
      refine r_lload_n h dX12_isKept_16 rfl 0 rfl ?_
      refine r_ldc2 (x := 1701013615) h dX12_isKept_17 (gt_in7 126 rfl rfl) rfl ?_
      refine r_lcmp h dX12_isKept_20 ra1 (rJc rfl) ?_
      refine r_if_eq (tgt := 88) h dX12_isKept_21 (by decide) (rI_ycmp _ _) (fun hc3 => ?_) (fun hc3 => ?_)
      · have hf := ite_t hc3 hf
        exact b_Mo_isKept_88 h hr hw a1 s0 ra1 hf
      · have hf := ite_f hc3 hf
        refine r_lload_n h dX12_isKept_24 rfl 0 rfl ?_
        refine r_ldc2 (x := 7823737) h dX12_isKept_25 (gt_in7 127 rfl rfl) rfl ?_
        refine r_lcmp h dX12_isKept_28 ra1 (rJc rfl) ?_
        refine r_if_eq (tgt := 88) h dX12_isKept_29 (by decide) (rI_ycmp _ _) (fun hc4 => ?_) (fun hc4 => ?_)
        · have hf := ite_t hc4 hf
          exact b_Mo_isKept_88 h hr hw a1 s0 ra1 hf
        · have hf := ite_f hc4 hf
          refine r_lload_n h dX12_isKept_32 rfl 0 rfl ?_
          refine r_ldc2 (x := 29807) h dX12_isKept_33 (gt_in7 128 rfl rfl) rfl ?_
          refine r_lcmp h dX12_isKept_36 ra1 (rJc rfl) ?_
          refine r_if_eq (tgt := 88) h dX12_isKept_37 (by decide) (rI_ycmp _ _) (fun hc5 => ?_) (fun hc5 => ?_)
          · have hf := ite_t hc5 hf
            exact b_Mo_isKept_88 h hr hw a1 s0 ra1 hf
          · have hf := ite_f hc5 hf
            refine r_lload_n h dX12_isKept_40 rfl 0 rfl ?_
            refine r_ldc2 (x := 495689623668) h dX12_isKept_41 (gt_in7 129 rfl rfl) rfl ?_
            refine r_lcmp h dX12_isKept_44 ra1 (rJc rfl) ?_
            refine r_if_eq (tgt := 88) h dX12_isKept_45 (by decide) (rI_ycmp _ _) (fun hc6 => ?_) (fun hc6 => ?_)
            · have hf := ite_t hc6 hf
              exact b_Mo_isKept_88 h hr hw a1 s0 ra1 hf
            · have hf := ite_f hc6 hf
              refine r_lload_n h dX12_isKept_48 rfl 0 rfl ?_
              refine r_ldc2 (x := 1936684396) h dX12_isKept_49 (gt_in7 130 rfl rfl) rfl ?_
              refine r_lcmp h dX12_isKept_52 ra1 (rJc rfl) ?_
              refine r_if_eq (tgt := 88) h dX12_isKept_53 (by decide) (rI_ycmp _ _) (fun hc7 => ?_) (fun hc7 => ?_)
              · have hf := ite_t hc7 hf
                exact b_Mo_isKept_88 h hr hw a1 s0 ra1 hf
              · have hf := ite_f hc7 hf
                refine r_lload_n h dX12_isKept_56 rfl 0 rfl ?_
                refine r_ldc2 (x := 8319403477078864494) h dX12_isKept_57 (gt_in7 131 rfl rfl) rfl ?_
                refine r_lcmp h dX12_isKept_60 ra1 (rJc rfl) ?_
                refine r_if_eq (tgt := 88) h dX12_isKept_61 (by decide) (rI_ycmp _ _) (fun hc8 => ?_) (fun hc8 => ?_)
                · have hf := ite_t hc8 hf
                  exact b_Mo_isKept_88 h hr hw a1 s0 ra1 hf
                · have hf := ite_f hc8 hf
                  refine r_lload_n h dX12_isKept_64 rfl 0 rfl ?_
                  refine r_ldc2 (x := 495673373300) h dX12_isKept_65 (gt_in7 132 rfl rfl) rfl ?_
                  refine r_lcmp h dX12_isKept_68 ra1 (rJc rfl) ?_
                  refine r_if_eq (tgt := 88) h dX12_isKept_69 (by decide) (rI_ycmp _ _) (fun hc9 => ?_) (fun hc9 => ?_)
                  · have hf := ite_t hc9 hf
                    exact b_Mo_isKept_88 h hr hw a1 s0 ra1 hf
                  · have hf := ite_f hc9 hf
                    refine r_lload_n h dX12_isKept_72 rfl 0 rfl ?_
                    refine r_ldc2 (x := 120265333040498) h dX12_isKept_73 (gt_in7 133 rfl rfl) rfl ?_
                    refine r_lcmp h dX12_isKept_76 ra1 (rJc rfl) ?_
                    refine r_if_eq (tgt := 88) h dX12_isKept_77 (by decide) (rI_ycmp _ _) (fun hc10 => ?_) (fun hc10 => ?_)
                    · have hf := ite_t hc10 hf
                      exact b_Mo_isKept_88 h hr hw a1 s0 ra1 hf
                    · have hf := ite_f hc10 hf
                      refine r_lload_n h dX12_isKept_80 rfl 0 rfl ?_
                      refine r_ldc2 (x := 422877228659) h dX12_isKept_81 (gt_in7 134 rfl rfl) rfl ?_
                      refine r_lcmp h dX12_isKept_84 ra1 (rJc rfl) ?_
                      refine r_if_ne (tgt := 92) h dX12_isKept_85 (by decide) (rI_ycmp _ _) (fun hc11 => ?_) (fun hc11 => ?_)
                      · have hf := ite_f hc11 hf
                        refine r_iconst h dX12_isKept_92 ?_
                        exact b_Mo_isKept_93 h hr hw a1 0 s0 ra1 (rIc rfl) hf
                      · have hf := ite_nf hc11 hf
                        exact b_Mo_isKept_88 h hr hw a1 s0 ra1 hf
set_option maxRecDepth 20000 in
theorem m_Mo_isSign {l : Launch} {D : va_G} {cs : Nat → ClassId} {aS aV : Nat} {A : Nat → Prop} {ad : Nat → Nat} {n : Nat} {nl : Nat → Nat → Bool} {out : Int × SS} (hw : w_WH n nl) {a1 : Int} (ra1 : rI a1) {s0 : SS} (hs0 : rS s0) (hf : f_Mo_isSign a1 s0 = some out) : w_MC l D cs aS aV A yX12_isSign cX12_isSign 1 2 rm_Mo_isSign ad n nl [.int (vI a1)] s0 (w_Po ad n nl out) := by
  refine w_MC_of (by decide +kernel) (by decide) hs0 (Nat.le_of_ble_eq_true rfl) (fun K h hr => ?_)
  refine r_lv (lv' := [(0, .int (vI a1))]) rfl ?_
  unfold f_Mo_isSign at hf
  refine r_rS h (fun hs0 => ?_)
  refine r_iload_n h dX12_isSign_0 rfl 0 rfl ?_
  refine r_bipush h dX12_isSign_1 (by decide) ?_
  refine r_icmp_eq (tgt := 66) h dX12_isSign_3 (by decide) ra1 (rIc rfl) (fun hc1 => ?_) (fun hc1 => ?_)
  · have hf := ite_t hc1 hf
    refine r_iconst h dX12_isSign_66 ?_
    refine r_goto (tgt := 71) h dX12_isSign_67 (by decide) ?_
    exact r_ret2 hr dX12_isSign_71 (Or.inr rfl) hf
  · have hf := ite_f hc1 hf
    refine r_iload_n h dX12_isSign_6 rfl 0 rfl ?_
    refine r_bipush h dX12_isSign_7 (by decide) ?_
    refine r_icmp_eq (tgt := 66) h dX12_isSign_9 (by decide) ra1 (rIc rfl) (fun hc2 => ?_) (fun hc2 => ?_)
    · have hf := ite_t hc2 hf
      refine r_iconst h dX12_isSign_66 ?_
      refine r_goto (tgt := 71) h dX12_isSign_67 (by decide) ?_
      exact r_ret2 hr dX12_isSign_71 (Or.inr rfl) hf
    · have hf := ite_f hc2 hf
      refine r_iload_n h dX12_isSign_12 rfl 0 rfl ?_
      refine r_bipush h dX12_isSign_13 (by decide) ?_
      refine r_icmp_eq (tgt := 66) h dX12_isSign_15 (by decide) ra1 (rIc rfl) (fun hc3 => ?_) (fun hc3 => ?_)
      · have hf := ite_t hc3 hf
        refine r_iconst h dX12_isSign_66 ?_
        refine r_goto (tgt := 71) h dX12_isSign_67 (by decide) ?_
        exact r_ret2 hr dX12_isSign_71 (Or.inr rfl) hf
      · have hf := ite_f hc3 hf
        refine r_iload_n h dX12_isSign_18 rfl 0 rfl ?_
        refine r_bipush h dX12_isSign_19 (by decide) ?_
        refine r_icmp_eq (tgt := 66) h dX12_isSign_21 (by decide) ra1 (rIc rfl) (fun hc4 => ?_) (fun hc4 => ?_)
        · have hf := ite_t hc4 hf
          refine r_iconst h dX12_isSign_66 ?_
          refine r_goto (tgt := 71) h dX12_isSign_67 (by decide) ?_
          exact r_ret2 hr dX12_isSign_71 (Or.inr rfl) hf
        · have hf := ite_f hc4 hf
          refine r_iload_n h dX12_isSign_24 rfl 0 rfl ?_
          refine r_bipush h dX12_isSign_25 (by decide) ?_
          refine r_icmp_eq (tgt := 66) h dX12_isSign_27 (by decide) ra1 (rIc rfl) (fun hc5 => ?_) (fun hc5 => ?_)
          · have hf := ite_t hc5 hf
            refine r_iconst h dX12_isSign_66 ?_
            refine r_goto (tgt := 71) h dX12_isSign_67 (by decide) ?_
            exact r_ret2 hr dX12_isSign_71 (Or.inr rfl) hf
          · have hf := ite_f hc5 hf
            refine r_iload_n h dX12_isSign_30 rfl 0 rfl ?_
            refine r_bipush h dX12_isSign_31 (by decide) ?_
            refine r_icmp_eq (tgt := 66) h dX12_isSign_33 (by decide) ra1 (rIc rfl) (fun hc6 => ?_) (fun hc6 => ?_)
            · have hf := ite_t hc6 hf
              refine r_iconst h dX12_isSign_66 ?_
              refine r_goto (tgt := 71) h dX12_isSign_67 (by decide) ?_
              exact r_ret2 hr dX12_isSign_71 (Or.inr rfl) hf
            · have hf := ite_f hc6 hf
              refine r_iload_n h dX12_isSign_36 rfl 0 rfl ?_
              refine r_bipush h dX12_isSign_37 (by decide) ?_
              refine r_icmp_eq (tgt := 66) h dX12_isSign_39 (by decide) ra1 (rIc rfl) (fun hc7 => ?_) (fun hc7 => ?_)
              · have hf := ite_t hc7 hf
                refine r_iconst h dX12_isSign_66 ?_
                refine r_goto (tgt := 71) h dX12_isSign_67 (by decide) ?_
                exact r_ret2 hr dX12_isSign_71 (Or.inr rfl) hf
              · have hf := ite_f hc7 hf
                refine r_iload_n h dX12_isSign_42 rfl 0 rfl ?_
                refine r_bipush h dX12_isSign_43 (by decide) ?_
                refine r_icmp_eq (tgt := 66) h dX12_isSign_45 (by decide) ra1 (rIc rfl) (fun hc8 => ?_) (fun hc8 => ?_)
                · have hf := ite_t hc8 hf
                  refine r_iconst h dX12_isSign_66 ?_
                  refine r_goto (tgt := 71) h dX12_isSign_67 (by decide) ?_
                  exact r_ret2 hr dX12_isSign_71 (Or.inr rfl) hf
                · have hf := ite_f hc8 hf
                  refine r_iload_n h dX12_isSign_48 rfl 0 rfl ?_
                  refine r_bipush h dX12_isSign_49 (by decide) ?_
                  refine r_icmp_eq (tgt := 66) h dX12_isSign_51 (by decide) ra1 (rIc rfl) (fun hc9 => ?_) (fun hc9 => ?_)
                  · have hf := ite_t hc9 hf
                    refine r_iconst h dX12_isSign_66 ?_
                    refine r_goto (tgt := 71) h dX12_isSign_67 (by decide) ?_
                    exact r_ret2 hr dX12_isSign_71 (Or.inr rfl) hf
                  · have hf := ite_f hc9 hf
                    refine r_iload_n h dX12_isSign_54 rfl 0 rfl ?_
                    refine r_bipush h dX12_isSign_55 (by decide) ?_
                    refine r_icmp_eq (tgt := 66) h dX12_isSign_57 (by decide) ra1 (rIc rfl) (fun hc10 => ?_) (fun hc10 => ?_)
                    · have hf := ite_t hc10 hf
                      refine r_iconst h dX12_isSign_66 ?_
                      refine r_goto (tgt := 71) h dX12_isSign_67 (by decide) ?_
                      exact r_ret2 hr dX12_isSign_71 (Or.inr rfl) hf
                    · have hf := ite_f hc10 hf
                      refine r_iload_n h dX12_isSign_60 rfl 0 rfl ?_
                      refine r_bipush h dX12_isSign_61 (by decide) ?_
                      refine r_icmp_ne (tgt := 70) h dX12_isSign_63 (by decide) ra1 (rIc rfl) (fun hc11 => ?_) (fun hc11 => ?_)
                      · have hf := ite_f hc11 hf
                        refine r_iconst h dX12_isSign_70 ?_
                        exact r_ret2 hr dX12_isSign_71 (Or.inl rfl) hf
                      · have hf := ite_nf hc11 hf
                        refine r_iconst h dX12_isSign_66 ?_
                        refine r_goto (tgt := 71) h dX12_isSign_67 (by decide) ?_
                        exact r_ret2 hr dX12_isSign_71 (Or.inr rfl) hf
set_option maxRecDepth 20000 in
theorem b_Mo_goOn_45 {l : Launch} {D : va_G} {cs : Nat → ClassId} {aS aV : Nat} {A : Nat → Prop} {K : KT} {ad : Nat → Nat} {n : Nat} {nl : Nat → Nat → Bool} {out : Int × SS} (h : w_Cl l rm_Mo_goOn D cs aS aV A cX12_goOn 3 RX12 "goOn" K) (hr : w_Rt 0 cX12_goOn 0 0 (w_Po ad n nl out) K) (hw : w_WH n nl) (ht : 86 < n) (self8 : SS → OO) (hself8 : ∀ (τ : SS), self8 τ = some out → K ad n nl 0 0 8 [(0, .ref (ad 86))] [] τ) (s0 : SS) (hf : j_Mo_goOn_45 self8 s0 = some out) : K ad n nl 0 0 45 [(0, .ref (ad 86))] [] s0 := by
  unfold j_Mo_goOn_45 at hf
  refine r_rS h (fun hs0 => ?_)
  refine r_aload_n h dX12_goOn_45 rfl 0 rfl ?_
  refine r_dup h dX12_goOn_46 rfl ?_
  refine g_X12_230 h dX12_goOn_47 ht rC_86 ?_
  refine r_iconst h dX12_goOn_50 ?_
  refine r_iadd h dX12_goOn_51 ?_
  refine p_X12_230 h dX12_goOn_52 ht rC_86 (rI_iw _) ?_
  refine r_os hf (fun s1 hf => ?_)
  refine r_rS h (fun hs1 => ?_)
  refine r_goto (tgt := 8) h dX12_goOn_55 (by decide) ?_
  exact hself8 s1 hf
set_option maxRecDepth 20000 in
theorem b_Mo_goOn_233 {l : Launch} {D : va_G} {cs : Nat → ClassId} {aS aV : Nat} {A : Nat → Prop} {K : KT} {ad : Nat → Nat} {n : Nat} {nl : Nat → Nat → Bool} {out : Int × SS} (h : w_Cl l rm_Mo_goOn D cs aS aV A cX12_goOn 3 RX12 "goOn" K) (hr : w_Rt 0 cX12_goOn 0 0 (w_Po ad n nl out) K) (hw : w_WH n nl) (ht : 86 < n) (z1 : Int) (s0 : SS) (rz1 : rI z1) (hf : j_Mo_goOn_233 z1 s0 = some out) : K ad n nl 0 0 233 [] [.int (vI z1), .ref (ad 86)] s0 := by
  unfold j_Mo_goOn_233 at hf
  refine r_rS h (fun hs0 => ?_)
  refine p_X12_237 h dX12_goOn_233 ht rC_86 rz1 ?_
  refine r_os hf (fun s1 hf => ?_)
  refine r_rS h (fun hs1 => ?_)
  refine r_goto (tgt := 377) h dX12_goOn_236 (by decide) ?_
  exact r_ret0 (x := 0) hr dX12_goOn_377 hf
set_option maxRecDepth 20000 in
theorem b_Mo_goOn_199 {l : Launch} {D : va_G} {cs : Nat → ClassId} {aS aV : Nat} {A : Nat → Prop} {K : KT} {ad : Nat → Nat} {n : Nat} {nl : Nat → Nat → Bool} {out : Int × SS} (h : w_Cl l rm_Mo_goOn D cs aS aV A cX12_goOn 3 RX12 "goOn" K) (hr : w_Rt 0 cX12_goOn 0 0 (w_Po ad n nl out) K) (hw : w_WH n nl) (ht : 86 < n) (s0 : SS) (hf : j_Mo_goOn_199 s0 = some out) : K ad n nl 0 0 199 [(0, .ref (ad 86))] [] s0 := by
  unfold j_Mo_goOn_199 at hf
  refine r_rS h (fun hs0 => ?_)
  refine r_aload_n h dX12_goOn_199 rfl 0 rfl ?_
  refine r_aload_n h dX12_goOn_200 rfl 0 rfl ?_
  refine g_X12_227 h dX12_goOn_201 ht rC_86 ?_
  refine r_aload_n h dX12_goOn_204 rfl 0 rfl ?_
  refine g_X12_230 h dX12_goOn_205 ht rC_86 ?_
  refine r_isub h dX12_goOn_208 ?_
  refine r_bipush h dX12_goOn_209 (by decide) ?_
  refine r_icmp_le (tgt := 218) h dX12_goOn_211 (by decide) (rI_iw _) (rIc rfl) (fun hc1 => ?_) (fun hc1 => ?_)
  · have hf := ite_t hc1 hf
    refine r_aload_n h dX12_goOn_218 rfl 0 rfl ?_
    refine g_X12_244 h dX12_goOn_219 ht rC_86 ?_
    obtain ⟨r2, s2, hq2, hf⟩ := ob_some hf
    refine r_callS2 h [.long (vJ (gj s0 86 10))] dX12_goOn_222 (fun hs => m_Mo_isKept hw (hs0.2 _ _) hs hq2) ml_X12_248 cv_Mo_isKept rfl ⟨rfl, rfl⟩ ⟨Nat.le_of_ble_eq_true rfl, Nat.le_of_ble_eq_true rfl⟩ ⟨Nat.le_of_ble_eq_true rfl, Nat.le_of_ble_eq_true rfl⟩ (Nat.le_of_ble_eq_true rfl) rfl (fun hr2 hs2 => ?_)
    refine r_if_eq (tgt := 232) h dX12_goOn_225 (by decide) (rI_b hr2) (fun hc3 => ?_) (fun hc3 => ?_)
    · have hf := ite_t hc3 hf
      refine r_iconst h dX12_goOn_232 ?_
      refine r_sub h [] rfl ?_
      exact b_Mo_goOn_233 h hr hw ht 2 s2 (rIc rfl) hf
    · have hf := ite_f hc3 hf
      refine r_iconst h dX12_goOn_228 ?_
      refine r_goto (tgt := 233) h dX12_goOn_229 (by decide) ?_
      refine r_sub h [] rfl ?_
      exact b_Mo_goOn_233 h hr hw ht 3 s2 (rIc rfl) hf
  · have hf := ite_f hc1 hf
    refine r_iconst h dX12_goOn_214 ?_
    refine r_goto (tgt := 233) h dX12_goOn_215 (by decide) ?_
    refine r_sub h [] rfl ?_
    exact b_Mo_goOn_233 h hr hw ht 1 s0 (rIc rfl) hf
set_option maxRecDepth 20000 in
theorem b_Mo_goOn_156 {l : Launch} {D : va_G} {cs : Nat → ClassId} {aS aV : Nat} {A : Nat → Prop} {K : KT} {ad : Nat → Nat} {n : Nat} {nl : Nat → Nat → Bool} {out : Int × SS} (h : w_Cl l rm_Mo_goOn D cs aS aV A cX12_goOn 3 RX12 "goOn" K) (hr : w_Rt 0 cX12_goOn 0 0 (w_Po ad n nl out) K) (hw : w_WH n nl) (ht : 86 < n) : ∀ (fu : Nat) (x2 : Int) (s0 : SS), rI x2 → l_Mo_goOn_156 fu x2 s0 = some out → K ad n nl 0 0 156 [(0, .ref (ad 86)), (2, .int (vI x2))] [] s0 := by
  intro fu
  induction fu with
  | zero =>
    intro x2 s0 rx2 hf
    rw [l_Mo_goOn_156] at hf
    cases hf
  | succ fu ih =>
    intro x2 s0 rx2 hf
    rw [l_Mo_goOn_156] at hf
    refine r_rS h (fun hs0 => ?_)
    refine r_iload_n h dX12_goOn_156 rfl 1 rfl ?_
    refine r_aload_n h dX12_goOn_157 rfl 0 rfl ?_
    refine g_X12_227 h dX12_goOn_158 ht rC_86 ?_
    refine r_icmp_ge (tgt := 199) h dX12_goOn_161 (by decide) rx2 (hs0.1 _ _) (fun hc1 => ?_) (fun hc1 => ?_)
    · have hf := ite_t hc1 hf
      refine r_sub h [0] rfl ?_
      exact b_Mo_goOn_199 h hr hw ht s0 hf
    · have hf := ite_f hc1 hf
      refine r_iload_n h dX12_goOn_164 rfl 1 rfl ?_
      refine r_aload_n h dX12_goOn_165 rfl 0 rfl ?_
      refine g_X12_230 h dX12_goOn_166 ht rC_86 ?_
      refine r_bipush h dX12_goOn_169 (by decide) ?_
      refine r_iadd h dX12_goOn_171 ?_
      refine r_icmp_ge (tgt := 199) h dX12_goOn_172 (by decide) rx2 (rI_iw _) (fun hc2 => ?_) (fun hc2 => ?_)
      · have hf := ite_t hc2 hf
        refine r_sub h [0] rfl ?_
        exact b_Mo_goOn_199 h hr hw ht s0 hf
      · have hf := ite_f hc2 hf
        refine r_aload_n h dX12_goOn_175 rfl 0 rfl ?_
        refine r_aload_n h dX12_goOn_176 rfl 0 rfl ?_
        refine g_X12_244 h dX12_goOn_177 ht rC_86 ?_
        refine r_bipush h dX12_goOn_180 (by decide) ?_
        refine r_lshl h dX12_goOn_182 ?_
        refine r_aload_n h dX12_goOn_183 rfl 0 rfl ?_
        refine r_iload_n h dX12_goOn_184 rfl 1 rfl ?_
        obtain ⟨r3, s3, hq3, hf⟩ := ob_some hf
        refine r_callV1 h [.int (vI x2)] dX12_goOn_185 (fun hs => m_Mo_sign hw ht rx2 hs hq3) ml_X12_233 cv_Mo_sign rfl (co := 12) rfl (by decide) ht rC_86 ⟨rfl, rfl⟩ ⟨Nat.le_of_ble_eq_true rfl, Nat.le_of_ble_eq_true rfl⟩ ⟨Nat.le_of_ble_eq_true rfl, Nat.le_of_ble_eq_true rfl⟩ (Nat.le_of_ble_eq_true rfl) rfl (fun hr3 hs3 => ?_)
        refine r_i2l h dX12_goOn_188 hr3 ?_
        refine r_lor h dX12_goOn_189 ?_
        refine p_X12_244 h dX12_goOn_190 ht rC_86 (rJ_yor _ _) ?_
        refine r_os hf (fun s4 hf => ?_)
        refine r_rS h (fun hs4 => ?_)
        refine r_iinc h [(2, .int (vI (iw (x2 + 1)))), (0, .ref (ad 86))] dX12_goOn_193 1 rfl (by decide) rfl ?_
        refine r_goto (tgt := 156) h dX12_goOn_196 (by decide) ?_
        refine r_sub h [1, 0] rfl ?_
        exact ih (iw (x2 + 1)) s4 (rI_iw _) hf
set_option maxRecDepth 20000 in
theorem b_Mo_goOn_119 {l : Launch} {D : va_G} {cs : Nat → ClassId} {aS aV : Nat} {A : Nat → Prop} {K : KT} {ad : Nat → Nat} {n : Nat} {nl : Nat → Nat → Bool} {out : Int × SS} (h : w_Cl l rm_Mo_goOn D cs aS aV A cX12_goOn 3 RX12 "goOn" K) (hr : w_Rt 0 cX12_goOn 0 0 (w_Po ad n nl out) K) (hw : w_WH n nl) (ht : 86 < n) : ∀ (fu : Nat) (s0 : SS), l_Mo_goOn_119 fu s0 = some out → K ad n nl 0 0 119 [(0, .ref (ad 86))] [] s0 := by
  intro fu
  induction fu with
  | zero =>
    intro s0 hf
    rw [l_Mo_goOn_119] at hf
    cases hf
  | succ fu ih =>
    intro s0 hf
    rw [l_Mo_goOn_119] at hf
    refine r_rS h (fun hs0 => ?_)
    refine r_aload_n h dX12_goOn_119 rfl 0 rfl ?_
    refine r_aload_n h dX12_goOn_120 rfl 0 rfl ?_
    refine g_X12_227 h dX12_goOn_121 ht rC_86 ?_
    obtain ⟨r1, s1, hq1, hf⟩ := ob_some hf
    refine r_callV1 h [.int (vI (gi s0 86 7))] dX12_goOn_124 (fun hs => m_Mo_sign hw ht (hs0.1 _ _) hs hq1) ml_X12_233 cv_Mo_sign rfl (co := 12) rfl (by decide) ht rC_86 ⟨rfl, rfl⟩ ⟨Nat.le_of_ble_eq_true rfl, Nat.le_of_ble_eq_true rfl⟩ ⟨Nat.le_of_ble_eq_true rfl, Nat.le_of_ble_eq_true rfl⟩ (Nat.le_of_ble_eq_true rfl) rfl (fun hr1 hs1 => ?_)
    obtain ⟨r2, s2, hq2, hf⟩ := ob_some hf
    refine r_callS2 h [.int (vI r1)] dX12_goOn_127 (fun hs => m_Mo_isLetter hw hr1 hs hq2) ml_X12_240 cv_Mo_isLetter rfl ⟨rfl, rfl⟩ ⟨Nat.le_of_ble_eq_true rfl, Nat.le_of_ble_eq_true rfl⟩ ⟨Nat.le_of_ble_eq_true rfl, Nat.le_of_ble_eq_true rfl⟩ (Nat.le_of_ble_eq_true rfl) rfl (fun hr2 hs2 => ?_)
    refine r_if_eq (tgt := 146) h dX12_goOn_130 (by decide) (rI_b hr2) (fun hc3 => ?_) (fun hc3 => ?_)
    · have hf := ite_t hc3 hf
      refine r_aload_n h dX12_goOn_146 rfl 0 rfl ?_
      refine r_lconst (x := 0) h dX12_goOn_147 (by decide) ?_
      refine p_X12_244 h dX12_goOn_148 ht rC_86 (rJc rfl) ?_
      refine r_os hf (fun s4 hf => ?_)
      refine r_rS h (fun hs4 => ?_)
      refine r_aload_n h dX12_goOn_151 rfl 0 rfl ?_
      refine g_X12_230 h dX12_goOn_152 ht rC_86 ?_
      refine r_ol hf (hs4.1 _ _) (fun x5_ rx5_ hf => ?_)
      refine r_istore_n h [(2, .int (vI x5_)), (0, .ref (ad 86))] dX12_goOn_155 rfl (by decide) rfl ?_
      refine r_sub h [1, 0] rfl ?_
      exact b_Mo_goOn_156 h hr hw ht FU x5_ s4 rx5_ hf
    · have hf := ite_f hc3 hf
      refine r_aload_n h dX12_goOn_133 rfl 0 rfl ?_
      refine r_dup h dX12_goOn_134 rfl ?_
      refine g_X12_227 h dX12_goOn_135 ht rC_86 ?_
      refine r_iconst h dX12_goOn_138 ?_
      refine r_iadd h dX12_goOn_139 ?_
      refine p_X12_227 h dX12_goOn_140 ht rC_86 (rI_iw _) ?_
      refine r_os hf (fun s6 hf => ?_)
      refine r_rS h (fun hs6 => ?_)
      refine r_goto (tgt := 119) h dX12_goOn_143 (by decide) ?_
      exact ih s6 hf
set_option maxRecDepth 20000 in
theorem b_Mo_goOn_309 {l : Launch} {D : va_G} {cs : Nat → ClassId} {aS aV : Nat} {A : Nat → Prop} {K : KT} {ad : Nat → Nat} {n : Nat} {nl : Nat → Nat → Bool} {out : Int × SS} (h : w_Cl l rm_Mo_goOn D cs aS aV A cX12_goOn 3 RX12 "goOn" K) (hr : w_Rt 0 cX12_goOn 0 0 (w_Po ad n nl out) K) (hw : w_WH n nl) (ht : 86 < n) (self259 : SS → OO) (hself259 : ∀ (τ : SS), self259 τ = some out → K ad n nl 0 0 259 [(0, .ref (ad 86))] [] τ) (s0 : SS) (hf : j_Mo_goOn_309 self259 s0 = some out) : K ad n nl 0 0 309 [(0, .ref (ad 86))] [] s0 := by
  unfold j_Mo_goOn_309 at hf
  refine r_rS h (fun hs0 => ?_)
  refine r_aload_n h dX12_goOn_309 rfl 0 rfl ?_
  refine r_dup h dX12_goOn_310 rfl ?_
  refine g_X12_227 h dX12_goOn_311 ht rC_86 ?_
  refine r_iconst h dX12_goOn_314 ?_
  refine r_iadd h dX12_goOn_315 ?_
  refine p_X12_227 h dX12_goOn_316 ht rC_86 (rI_iw _) ?_
  refine r_os hf (fun s1 hf => ?_)
  refine r_rS h (fun hs1 => ?_)
  refine r_goto (tgt := 259) h dX12_goOn_319 (by decide) ?_
  exact hself259 s1 hf
set_option maxRecDepth 20000 in
theorem b_Mo_goOn_355 {l : Launch} {D : va_G} {cs : Nat → ClassId} {aS aV : Nat} {A : Nat → Prop} {K : KT} {ad : Nat → Nat} {n : Nat} {nl : Nat → Nat → Bool} {out : Int × SS} (h : w_Cl l rm_Mo_goOn D cs aS aV A cX12_goOn 3 RX12 "goOn" K) (hr : w_Rt 0 cX12_goOn 0 0 (w_Po ad n nl out) K) (hw : w_WH n nl) (ht : 86 < n) (z1 : Int) (s0 : SS) (rz1 : rI z1) (hf : j_Mo_goOn_355 z1 s0 = some out) : K ad n nl 0 0 355 [] [.int (vI z1), .ref (ad 86)] s0 := by
  unfold j_Mo_goOn_355 at hf
  refine r_rS h (fun hs0 => ?_)
  refine p_X12_237 h dX12_goOn_355 ht rC_86 rz1 ?_
  refine r_os hf (fun s1 hf => ?_)
  refine r_rS h (fun hs1 => ?_)
  refine r_goto (tgt := 377) h dX12_goOn_358 (by decide) ?_
  exact r_ret0 (x := 0) hr dX12_goOn_377 hf
set_option maxRecDepth 20000 in
theorem b_Mo_goOn_350 {l : Launch} {D : va_G} {cs : Nat → ClassId} {aS aV : Nat} {A : Nat → Prop} {K : KT} {ad : Nat → Nat} {n : Nat} {nl : Nat → Nat → Bool} {out : Int × SS} (h : w_Cl l rm_Mo_goOn D cs aS aV A cX12_goOn 3 RX12 "goOn" K) (hr : w_Rt 0 cX12_goOn 0 0 (w_Po ad n nl out) K) (hw : w_WH n nl) (ht : 86 < n) (s0 : SS) (hf : j_Mo_goOn_350 s0 = some out) : K ad n nl 0 0 350 [] [.ref (ad 86)] s0 := by
  unfold j_Mo_goOn_350 at hf
  refine r_rS h (fun hs0 => ?_)
  refine r_iconst h dX12_goOn_350 ?_
  refine r_goto (tgt := 355) h dX12_goOn_351 (by decide) ?_
  exact b_Mo_goOn_355 h hr hw ht 1 s0 (rIc rfl) hf
set_option maxRecDepth 20000 in
theorem b_Mo_goOn_259 {l : Launch} {D : va_G} {cs : Nat → ClassId} {aS aV : Nat} {A : Nat → Prop} {K : KT} {ad : Nat → Nat} {n : Nat} {nl : Nat → Nat → Bool} {out : Int × SS} (h : w_Cl l rm_Mo_goOn D cs aS aV A cX12_goOn 3 RX12 "goOn" K) (hr : w_Rt 0 cX12_goOn 0 0 (w_Po ad n nl out) K) (hw : w_WH n nl) (ht : 86 < n) : ∀ (fu : Nat) (s0 : SS), l_Mo_goOn_259 fu s0 = some out → K ad n nl 0 0 259 [(0, .ref (ad 86))] [] s0 := by
  intro fu
  induction fu with
  | zero =>
    intro s0 hf
    rw [l_Mo_goOn_259] at hf
    cases hf
  | succ fu ih =>
    intro s0 hf
    rw [l_Mo_goOn_259] at hf
    refine r_rS h (fun hs0 => ?_)
    refine r_aload_n h dX12_goOn_259 rfl 0 rfl ?_
    refine r_aload_n h dX12_goOn_260 rfl 0 rfl ?_
    refine g_X12_227 h dX12_goOn_261 ht rC_86 ?_
    obtain ⟨r1, s1, hq1, hf⟩ := ob_some hf
    refine r_callV1 h [.int (vI (gi s0 86 7))] dX12_goOn_264 (fun hs => m_Mo_sign hw ht (hs0.1 _ _) hs hq1) ml_X12_233 cv_Mo_sign rfl (co := 12) rfl (by decide) ht rC_86 ⟨rfl, rfl⟩ ⟨Nat.le_of_ble_eq_true rfl, Nat.le_of_ble_eq_true rfl⟩ ⟨Nat.le_of_ble_eq_true rfl, Nat.le_of_ble_eq_true rfl⟩ (Nat.le_of_ble_eq_true rfl) rfl (fun hr1 hs1 => ?_)
    obtain ⟨r2, s2, hq2, hf⟩ := ob_some hf
    refine r_callS2 h [.int (vI r1)] dX12_goOn_267 (fun hs => m_Mo_isDigit hw hr1 hs hq2) ml_X12_252 cv_Mo_isDigit rfl ⟨rfl, rfl⟩ ⟨Nat.le_of_ble_eq_true rfl, Nat.le_of_ble_eq_true rfl⟩ ⟨Nat.le_of_ble_eq_true rfl, Nat.le_of_ble_eq_true rfl⟩ (Nat.le_of_ble_eq_true rfl) rfl (fun hr2 hs2 => ?_)
    refine r_if_eq (tgt := 322) h dX12_goOn_270 (by decide) (rI_b hr2) (fun hc3 => ?_) (fun hc3 => ?_)
    · have hf := ite_t hc3 hf
      refine r_aload_n h dX12_goOn_322 rfl 0 rfl ?_
      refine r_aload_n h dX12_goOn_323 rfl 0 rfl ?_
      refine g_X12_227 h dX12_goOn_324 ht rC_86 ?_
      refine r_aload_n h dX12_goOn_327 rfl 0 rfl ?_
      refine g_X12_230 h dX12_goOn_328 ht rC_86 ?_
      refine r_isub h dX12_goOn_331 ?_
      refine r_iconst h dX12_goOn_332 ?_
      refine r_icmp_gt (tgt := 350) h dX12_goOn_333 (by decide) (rI_iw _) (rIc rfl) (fun hc4 => ?_) (fun hc4 => ?_)
      · have hf := ite_t hc4 hf
        refine r_sub h [] rfl ?_
        exact b_Mo_goOn_350 h hr hw ht s2 hf
      · have hf := ite_f hc4 hf
        refine r_aload_n h dX12_goOn_336 rfl 0 rfl ?_
        refine r_aload_n h dX12_goOn_337 rfl 0 rfl ?_
        refine g_X12_227 h dX12_goOn_338 ht rC_86 ?_
        obtain ⟨r5, s5, hq5, hf⟩ := ob_some hf
        refine r_callV1 h [.int (vI (gi s2 86 7))] dX12_goOn_341 (fun hs => m_Mo_sign hw ht (hs2.1 _ _) hs hq5) ml_X12_233 cv_Mo_sign rfl (co := 12) rfl (by decide) ht rC_86 ⟨rfl, rfl⟩ ⟨Nat.le_of_ble_eq_true rfl, Nat.le_of_ble_eq_true rfl⟩ ⟨Nat.le_of_ble_eq_true rfl, Nat.le_of_ble_eq_true rfl⟩ (Nat.le_of_ble_eq_true rfl) rfl (fun hr5 hs5 => ?_)
        obtain ⟨r6, s6, hq6, hf⟩ := ob_some hf
        refine r_callS2 h [.int (vI r5)] dX12_goOn_344 (fun hs => m_Mo_isLetter hw hr5 hs hq6) ml_X12_240 cv_Mo_isLetter rfl ⟨rfl, rfl⟩ ⟨Nat.le_of_ble_eq_true rfl, Nat.le_of_ble_eq_true rfl⟩ ⟨Nat.le_of_ble_eq_true rfl, Nat.le_of_ble_eq_true rfl⟩ (Nat.le_of_ble_eq_true rfl) rfl (fun hr6 hs6 => ?_)
        refine r_if_eq (tgt := 354) h dX12_goOn_347 (by decide) (rI_b hr6) (fun hc7 => ?_) (fun hc7 => ?_)
        · have hf := ite_t hc7 hf
          refine r_iconst h dX12_goOn_354 ?_
          refine r_sub h [] rfl ?_
          exact b_Mo_goOn_355 h hr hw ht 4 s6 (rIc rfl) hf
        · have hf := ite_f hc7 hf
          refine r_sub h [] rfl ?_
          exact b_Mo_goOn_350 h hr hw ht s6 hf
    · have hf := ite_f hc3 hf
      refine r_aload_n h dX12_goOn_273 rfl 0 rfl ?_
      refine g_X12_227 h dX12_goOn_274 ht rC_86 ?_
      refine r_aload_n h dX12_goOn_277 rfl 0 rfl ?_
      refine g_X12_230 h dX12_goOn_278 ht rC_86 ?_
      refine r_isub h dX12_goOn_281 ?_
      refine r_iconst h dX12_goOn_282 ?_
      refine r_icmp_ge (tgt := 309) h dX12_goOn_283 (by decide) (rI_iw _) (rIc rfl) (fun hc8 => ?_) (fun hc8 => ?_)
      · have hf := ite_t hc8 hf
        exact b_Mo_goOn_309 h hr hw ht (l_Mo_goOn_259 fu) ih s2 hf
      · have hf := ite_f hc8 hf
        refine r_aload_n h dX12_goOn_286 rfl 0 rfl ?_
        refine r_bipush h dX12_goOn_287 (by decide) ?_
        refine r_aload_n h dX12_goOn_289 rfl 0 rfl ?_
        refine g_X12_255 h dX12_goOn_290 ht rC_86 ?_
        refine r_imul h dX12_goOn_293 ?_
        refine r_aload_n h dX12_goOn_294 rfl 0 rfl ?_
        refine r_aload_n h dX12_goOn_295 rfl 0 rfl ?_
        refine g_X12_227 h dX12_goOn_296 ht rC_86 ?_
        obtain ⟨r9, s9, hq9, hf⟩ := ob_some hf
        refine r_callV1 h [.int (vI (gi s2 86 7))] dX12_goOn_299 (fun hs => m_Mo_sign hw ht (hs2.1 _ _) hs hq9) ml_X12_233 cv_Mo_sign rfl (co := 12) rfl (by decide) ht rC_86 ⟨rfl, rfl⟩ ⟨Nat.le_of_ble_eq_true rfl, Nat.le_of_ble_eq_true rfl⟩ ⟨Nat.le_of_ble_eq_true rfl, Nat.le_of_ble_eq_true rfl⟩ (Nat.le_of_ble_eq_true rfl) rfl (fun hr9 hs9 => ?_)
        refine r_iadd h dX12_goOn_302 ?_
        refine r_bipush h dX12_goOn_303 (by decide) ?_
        refine r_isub h dX12_goOn_305 ?_
        refine p_X12_255 h dX12_goOn_306 ht rC_86 (rI_iw _) ?_
        refine r_os hf (fun s10 hf => ?_)
        refine r_rS h (fun hs10 => ?_)
        exact b_Mo_goOn_309 h hr hw ht (l_Mo_goOn_259 fu) ih s10 hf
set_option maxRecDepth 20000 in
theorem b_Mo_goOn_374 {l : Launch} {D : va_G} {cs : Nat → ClassId} {aS aV : Nat} {A : Nat → Prop} {K : KT} {ad : Nat → Nat} {n : Nat} {nl : Nat → Nat → Bool} {out : Int × SS} (h : w_Cl l rm_Mo_goOn D cs aS aV A cX12_goOn 3 RX12 "goOn" K) (hr : w_Rt 0 cX12_goOn 0 0 (w_Po ad n nl out) K) (hw : w_WH n nl) (ht : 86 < n) (z1 : Int) (s0 : SS) (rz1 : rI z1) (hf : j_Mo_goOn_374 z1 s0 = some out) : K ad n nl 0 0 374 [] [.int (vI z1), .ref (ad 86)] s0 := by
  unfold j_Mo_goOn_374 at hf
  refine r_rS h (fun hs0 => ?_)
  refine p_X12_237 h dX12_goOn_374 ht rC_86 rz1 ?_
  refine r_os hf (fun s1 hf => ?_)
  refine r_rS h (fun hs1 => ?_)
  exact r_ret0 (x := 0) hr dX12_goOn_377 hf
set_option maxRecDepth 20000 in
theorem b_Mo_goOn_58 {l : Launch} {D : va_G} {cs : Nat → ClassId} {aS aV : Nat} {A : Nat → Prop} {K : KT} {ad : Nat → Nat} {n : Nat} {nl : Nat → Nat → Bool} {out : Int × SS} (h : w_Cl l rm_Mo_goOn D cs aS aV A cX12_goOn 3 RX12 "goOn" K) (hr : w_Rt 0 cX12_goOn 0 0 (w_Po ad n nl out) K) (hw : w_WH n nl) (ht : 86 < n) (s0 : SS) (hf : j_Mo_goOn_58 s0 = some out) : K ad n nl 0 0 58 [(0, .ref (ad 86))] [] s0 := by
  unfold j_Mo_goOn_58 at hf
  refine r_rS h (fun hs0 => ?_)
  refine r_aload_n h dX12_goOn_58 rfl 0 rfl ?_
  refine r_aload_n h dX12_goOn_59 rfl 0 rfl ?_
  refine g_X12_230 h dX12_goOn_60 ht rC_86 ?_
  obtain ⟨r1, s1, hq1, hf⟩ := ob_some hf
  refine r_callV1 h [.int (vI (gi s0 86 6))] dX12_goOn_63 (fun hs => m_Mo_sign hw ht (hs0.1 _ _) hs hq1) ml_X12_233 cv_Mo_sign rfl (co := 12) rfl (by decide) ht rC_86 ⟨rfl, rfl⟩ ⟨Nat.le_of_ble_eq_true rfl, Nat.le_of_ble_eq_true rfl⟩ ⟨Nat.le_of_ble_eq_true rfl, Nat.le_of_ble_eq_true rfl⟩ (Nat.le_of_ble_eq_true rfl) rfl (fun hr1 hs1 => ?_)
  refine r_istore_n h [(1, .int (vI r1)), (0, .ref (ad 86))] dX12_goOn_66 rfl (by decide) rfl ?_
  refine r_aload_n h dX12_goOn_67 rfl 1 rfl ?_
  refine r_aload_n h dX12_goOn_68 rfl 1 rfl ?_
  refine g_X12_230 h dX12_goOn_69 ht rC_86 ?_
  refine r_iconst h dX12_goOn_72 ?_
  refine r_iadd h dX12_goOn_73 ?_
  refine p_X12_227 h dX12_goOn_74 ht rC_86 (rI_iw _) ?_
  refine r_os hf (fun s2 hf => ?_)
  refine r_rS h (fun hs2 => ?_)
  refine r_aload_n h dX12_goOn_77 rfl 1 rfl ?_
  refine g_X12_230 h dX12_goOn_78 ht rC_86 ?_
  refine r_aload_n h dX12_goOn_81 rfl 1 rfl ?_
  refine g_X12_179 h dX12_goOn_82 ht rC_86 ?_
  refine r_icmp_lt (tgt := 112) h dX12_goOn_85 (by decide) (hs2.1 _ _) (hs2.1 _ _) (fun hc3 => ?_) (fun hc3 => ?_)
  · have hf := ite_t hc3 hf
    refine r_iload_n h dX12_goOn_112 rfl 0 rfl ?_
    obtain ⟨r4, s4, hq4, hf⟩ := ob_some hf
    refine r_callS2 h [.int (vI r1)] dX12_goOn_113 (fun hs => m_Mo_isLetter hw hr1 hs hq4) ml_X12_240 cv_Mo_isLetter rfl ⟨rfl, rfl⟩ ⟨Nat.le_of_ble_eq_true rfl, Nat.le_of_ble_eq_true rfl⟩ ⟨Nat.le_of_ble_eq_true rfl, Nat.le_of_ble_eq_true rfl⟩ (Nat.le_of_ble_eq_true rfl) rfl (fun hr4 hs4 => ?_)
    refine r_if_eq (tgt := 239) h dX12_goOn_116 (by decide) (rI_b hr4) (fun hc5 => ?_) (fun hc5 => ?_)
    · have hf := ite_t hc5 hf
      refine r_iload_n h dX12_goOn_239 rfl 0 rfl ?_
      obtain ⟨r6, s6, hq6, hf⟩ := ob_some hf
      refine r_callS2 h [.int (vI r1)] dX12_goOn_240 (fun hs => m_Mo_isDigit hw hr1 hs hq6) ml_X12_252 cv_Mo_isDigit rfl ⟨rfl, rfl⟩ ⟨Nat.le_of_ble_eq_true rfl, Nat.le_of_ble_eq_true rfl⟩ ⟨Nat.le_of_ble_eq_true rfl, Nat.le_of_ble_eq_true rfl⟩ (Nat.le_of_ble_eq_true rfl) rfl (fun hr6 hs6 => ?_)
      refine r_if_eq (tgt := 361) h dX12_goOn_243 (by decide) (rI_b hr6) (fun hc7 => ?_) (fun hc7 => ?_)
      · have hf := ite_t hc7 hf
        refine r_aload_n h dX12_goOn_361 rfl 1 rfl ?_
        refine r_iload_n h dX12_goOn_362 rfl 0 rfl ?_
        obtain ⟨r8, s8, hq8, hf⟩ := ob_some hf
        refine r_callS2 h [.int (vI r1)] dX12_goOn_363 (fun hs => m_Mo_isSign hw hr1 hs hq8) ml_X12_258 cv_Mo_isSign rfl ⟨rfl, rfl⟩ ⟨Nat.le_of_ble_eq_true rfl, Nat.le_of_ble_eq_true rfl⟩ ⟨Nat.le_of_ble_eq_true rfl, Nat.le_of_ble_eq_true rfl⟩ (Nat.le_of_ble_eq_true rfl) rfl (fun hr8 hs8 => ?_)
        refine r_if_eq (tgt := 373) h dX12_goOn_366 (by decide) (rI_b hr8) (fun hc9 => ?_) (fun hc9 => ?_)
        · have hf := ite_t hc9 hf
          refine r_iconst h dX12_goOn_373 ?_
          refine r_sub h [] rfl ?_
          exact b_Mo_goOn_374 h hr hw ht 1 s8 (rIc rfl) hf
        · have hf := ite_f hc9 hf
          refine r_iconst h dX12_goOn_369 ?_
          refine r_goto (tgt := 374) h dX12_goOn_370 (by decide) ?_
          refine r_sub h [] rfl ?_
          exact b_Mo_goOn_374 h hr hw ht 5 s8 (rIc rfl) hf
      · have hf := ite_f hc7 hf
        refine r_aload_n h dX12_goOn_246 rfl 1 rfl ?_
        refine r_iconst h dX12_goOn_247 ?_
        refine p_X12_255 h dX12_goOn_248 ht rC_86 (rIc rfl) ?_
        refine r_os hf (fun s10 hf => ?_)
        refine r_rS h (fun hs10 => ?_)
        refine r_aload_n h dX12_goOn_251 rfl 1 rfl ?_
        refine r_aload_n h dX12_goOn_252 rfl 1 rfl ?_
        refine g_X12_230 h dX12_goOn_253 ht rC_86 ?_
        refine p_X12_227 h dX12_goOn_256 ht rC_86 (hs10.1 _ _) ?_
        refine r_os hf (fun s11 hf => ?_)
        refine r_rS h (fun hs11 => ?_)
        refine r_sub h [1] rfl ?_
        exact b_Mo_goOn_259 h hr hw ht FU s11 hf
    · have hf := ite_f hc5 hf
      refine r_sub h [1] rfl ?_
      exact b_Mo_goOn_119 h hr hw ht FU s4 hf
  · have hf := ite_f hc3 hf
    refine r_aload_n h dX12_goOn_88 rfl 1 rfl ?_
    refine r_iconst h dX12_goOn_89 ?_
    refine p_X12_237 h dX12_goOn_90 ht rC_86 (rIc rfl) ?_
    refine r_os hf (fun s12 hf => ?_)
    refine r_rS h (fun hs12 => ?_)
    refine r_aload_n h dX12_goOn_93 rfl 1 rfl ?_
    refine r_aload_n h dX12_goOn_94 rfl 1 rfl ?_
    refine g_X12_179 h dX12_goOn_95 ht rC_86 ?_
    refine p_X12_230 h dX12_goOn_98 ht rC_86 (hs12.1 _ _) ?_
    refine r_os hf (fun s13 hf => ?_)
    refine r_rS h (fun hs13 => ?_)
    refine r_aload_n h dX12_goOn_101 rfl 1 rfl ?_
    refine r_aload_n h dX12_goOn_102 rfl 1 rfl ?_
    refine g_X12_179 h dX12_goOn_103 ht rC_86 ?_
    refine p_X12_227 h dX12_goOn_106 ht rC_86 (hs13.1 _ _) ?_
    refine r_os hf (fun s14 hf => ?_)
    refine r_rS h (fun hs14 => ?_)
    refine r_goto (tgt := 377) h dX12_goOn_109 (by decide) ?_
    exact r_ret0 (x := 0) hr dX12_goOn_377 hf
set_option maxRecDepth 20000 in
theorem b_Mo_goOn_8 {l : Launch} {D : va_G} {cs : Nat → ClassId} {aS aV : Nat} {A : Nat → Prop} {K : KT} {ad : Nat → Nat} {n : Nat} {nl : Nat → Nat → Bool} {out : Int × SS} (h : w_Cl l rm_Mo_goOn D cs aS aV A cX12_goOn 3 RX12 "goOn" K) (hr : w_Rt 0 cX12_goOn 0 0 (w_Po ad n nl out) K) (hw : w_WH n nl) (ht : 86 < n) : ∀ (fu : Nat) (s0 : SS), l_Mo_goOn_8 fu s0 = some out → K ad n nl 0 0 8 [(0, .ref (ad 86))] [] s0 := by
  intro fu
  induction fu with
  | zero =>
    intro s0 hf
    rw [l_Mo_goOn_8] at hf
    cases hf
  | succ fu ih =>
    intro s0 hf
    rw [l_Mo_goOn_8] at hf
    refine r_rS h (fun hs0 => ?_)
    refine r_aload_n h dX12_goOn_8 rfl 0 rfl ?_
    refine g_X12_230 h dX12_goOn_9 ht rC_86 ?_
    refine r_aload_n h dX12_goOn_12 rfl 0 rfl ?_
    refine g_X12_179 h dX12_goOn_13 ht rC_86 ?_
    refine r_icmp_ge (tgt := 58) h dX12_goOn_16 (by decide) (hs0.1 _ _) (hs0.1 _ _) (fun hc1 => ?_) (fun hc1 => ?_)
    · have hf := ite_t hc1 hf
      exact b_Mo_goOn_58 h hr hw ht s0 hf
    · have hf := ite_f hc1 hf
      refine r_aload_n h dX12_goOn_19 rfl 0 rfl ?_
      refine r_aload_n h dX12_goOn_20 rfl 0 rfl ?_
      refine g_X12_230 h dX12_goOn_21 ht rC_86 ?_
      obtain ⟨r2, s2, hq2, hf⟩ := ob_some hf
      refine r_callV1 h [.int (vI (gi s0 86 6))] dX12_goOn_24 (fun hs => m_Mo_sign hw ht (hs0.1 _ _) hs hq2) ml_X12_233 cv_Mo_sign rfl (co := 12) rfl (by decide) ht rC_86 ⟨rfl, rfl⟩ ⟨Nat.le_of_ble_eq_true rfl, Nat.le_of_ble_eq_true rfl⟩ ⟨Nat.le_of_ble_eq_true rfl, Nat.le_of_ble_eq_true rfl⟩ (Nat.le_of_ble_eq_true rfl) rfl (fun hr2 hs2 => ?_)
      refine r_bipush h dX12_goOn_27 (by decide) ?_
      refine r_icmp_eq (tgt := 45) h dX12_goOn_29 (by decide) hr2 (rIc rfl) (fun hc3 => ?_) (fun hc3 => ?_)
      · have hf := ite_t hc3 hf
        exact b_Mo_goOn_45 h hr hw ht (l_Mo_goOn_8 fu) ih s2 hf
      · have hf := ite_f hc3 hf
        refine r_aload_n h dX12_goOn_32 rfl 0 rfl ?_
        refine r_aload_n h dX12_goOn_33 rfl 0 rfl ?_
        refine g_X12_230 h dX12_goOn_34 ht rC_86 ?_
        obtain ⟨r4, s4, hq4, hf⟩ := ob_some hf
        refine r_callV1 h [.int (vI (gi s2 86 6))] dX12_goOn_37 (fun hs => m_Mo_sign hw ht (hs2.1 _ _) hs hq4) ml_X12_233 cv_Mo_sign rfl (co := 12) rfl (by decide) ht rC_86 ⟨rfl, rfl⟩ ⟨Nat.le_of_ble_eq_true rfl, Nat.le_of_ble_eq_true rfl⟩ ⟨Nat.le_of_ble_eq_true rfl, Nat.le_of_ble_eq_true rfl⟩ (Nat.le_of_ble_eq_true rfl) rfl (fun hr4 hs4 => ?_)
        refine r_bipush h dX12_goOn_40 (by decide) ?_
        refine r_icmp_ne (tgt := 58) h dX12_goOn_42 (by decide) hr4 (rIc rfl) (fun hc5 => ?_) (fun hc5 => ?_)
        · have hf := ite_f hc5 hf
          exact b_Mo_goOn_58 h hr hw ht s4 hf
        · have hf := ite_nf hc5 hf
          exact b_Mo_goOn_45 h hr hw ht (l_Mo_goOn_8 fu) ih s4 hf
set_option maxRecDepth 20000 in
theorem m_Mo_goOn {l : Launch} {D : va_G} {cs : Nat → ClassId} {aS aV : Nat} {A : Nat → Prop} {ad : Nat → Nat} {n : Nat} {nl : Nat → Nat → Bool} {out : Int × SS} (hw : w_WH n nl) (ht : 86 < n) {s0 : SS} (hs0 : rS s0) (hf : f_Mo_goOn s0 = some out) : w_MC l D cs aS aV A yX12_goOn cX12_goOn 3 0 rm_Mo_goOn ad n nl [.ref (ad 86)] s0 (w_Po ad n nl out) := by
  refine w_MC_of (by decide +kernel) (by decide) hs0 (Nat.le_of_ble_eq_true rfl) (fun K h hr => ?_)
  refine r_lv (lv' := [(0, .ref (ad 86))]) rfl ?_
  unfold f_Mo_goOn at hf
  refine r_rS h (fun hs0 => ?_)
  refine r_aload_n h dX12_goOn_0 rfl 0 rfl ?_
  refine r_aload_n h dX12_goOn_1 rfl 0 rfl ?_
  refine g_X12_227 h dX12_goOn_2 ht rC_86 ?_
  refine p_X12_230 h dX12_goOn_5 ht rC_86 (hs0.1 _ _) ?_
  refine r_os hf (fun s1 hf => ?_)
  refine r_rS h (fun hs1 => ?_)
  exact b_Mo_goOn_8 h hr hw ht FU s1 hf
set_option maxRecDepth 20000 in
theorem m_Mo_isSignHere {l : Launch} {D : va_G} {cs : Nat → ClassId} {aS aV : Nat} {A : Nat → Prop} {ad : Nat → Nat} {n : Nat} {nl : Nat → Nat → Bool} {out : Int × SS} (hw : w_WH n nl) (ht : 86 < n) {a1 : Int} (ra1 : rI a1) {s0 : SS} (hs0 : rS s0) (hf : f_Mo_isSignHere a1 s0 = some out) : w_MC l D cs aS aV A yX12_isSignHere cX12_isSignHere 2 2 rm_Mo_isSignHere ad n nl [.ref (ad 86), .int (vI a1)] s0 (w_Po ad n nl out) := by
  refine w_MC_of (by decide +kernel) (by decide) hs0 (Nat.le_of_ble_eq_true rfl) (fun K h hr => ?_)
  refine r_lv (lv' := [(0, .ref (ad 86)), (1, .int (vI a1))]) rfl ?_
  unfold f_Mo_isSignHere at hf
  refine r_rS h (fun hs0 => ?_)
  refine r_aload_n h dX12_isSignHere_0 rfl 0 rfl ?_
  refine g_X12_237 h dX12_isSignHere_1 ht rC_86 ?_
  refine r_iconst h dX12_isSignHere_4 ?_
  refine r_icmp_ne (tgt := 24) h dX12_isSignHere_5 (by decide) (hs0.1 _ _) (rIc rfl) (fun hc1 => ?_) (fun hc1 => ?_)
  · have hf := ite_f hc1 hf
    refine r_iconst h dX12_isSignHere_24 ?_
    exact r_ret2 hr dX12_isSignHere_25 (Or.inl rfl) hf
  · have hf := ite_nf hc1 hf
    refine r_aload_n h dX12_isSignHere_8 rfl 0 rfl ?_
    refine r_aload_n h dX12_isSignHere_9 rfl 0 rfl ?_
    refine g_X12_230 h dX12_isSignHere_10 ht rC_86 ?_
    obtain ⟨r2, s2, hq2, hf⟩ := ob_some hf
    refine r_callV1 h [.int (vI (gi s0 86 6))] dX12_isSignHere_13 (fun hs => m_Mo_sign hw ht (hs0.1 _ _) hs hq2) ml_X12_233 cv_Mo_sign rfl (co := 12) rfl (by decide) ht rC_86 ⟨rfl, rfl⟩ ⟨Nat.le_of_ble_eq_true rfl, Nat.le_of_ble_eq_true rfl⟩ ⟨Nat.le_of_ble_eq_true rfl, Nat.le_of_ble_eq_true rfl⟩ (Nat.le_of_ble_eq_true rfl) rfl (fun hr2 hs2 => ?_)
    refine r_iload_n h dX12_isSignHere_16 rfl 1 rfl ?_
    refine r_icmp_ne (tgt := 24) h dX12_isSignHere_17 (by decide) hr2 ra1 (fun hc3 => ?_) (fun hc3 => ?_)
    · have hf := ite_f hc3 hf
      refine r_iconst h dX12_isSignHere_24 ?_
      exact r_ret2 hr dX12_isSignHere_25 (Or.inl rfl) hf
    · have hf := ite_nf hc3 hf
      refine r_iconst h dX12_isSignHere_20 ?_
      refine r_goto (tgt := 25) h dX12_isSignHere_21 (by decide) ?_
      exact r_ret2 hr dX12_isSignHere_25 (Or.inr rfl) hf
set_option maxRecDepth 20000 in
theorem m_Mo_isWord {l : Launch} {D : va_G} {cs : Nat → ClassId} {aS aV : Nat} {A : Nat → Prop} {ad : Nat → Nat} {n : Nat} {nl : Nat → Nat → Bool} {out : Int × SS} (hw : w_WH n nl) (ht : 86 < n) {a1 : Int} (ra1 : rJ a1) {s0 : SS} (hs0 : rS s0) (hf : f_Mo_isWord a1 s0 = some out) : w_MC l D cs aS aV A yX12_isWord cX12_isWord 3 2 rm_Mo_isWord ad n nl [.ref (ad 86), .long (vJ a1)] s0 (w_Po ad n nl out) := by
  refine w_MC_of (by decide +kernel) (by decide) hs0 (Nat.le_of_ble_eq_true rfl) (fun K h hr => ?_)
  refine r_lv (lv' := [(0, .ref (ad 86)), (1, .long (vJ a1))]) rfl ?_
  unfold f_Mo_isWord at hf
  refine r_rS h (fun hs0 => ?_)
  refine r_aload_n h dX12_isWord_0 rfl 0 rfl ?_
  refine g_X12_237 h dX12_isWord_1 ht rC_86 ?_
  refine r_iconst h dX12_isWord_4 ?_
  refine r_icmp_ne (tgt := 21) h dX12_isWord_5 (by decide) (hs0.1 _ _) (rIc rfl) (fun hc1 => ?_) (fun hc1 => ?_)
  · have hf := ite_f hc1 hf
    refine r_iconst h dX12_isWord_21 ?_
    exact r_ret2 hr dX12_isWord_22 (Or.inl rfl) hf
  · have hf := ite_nf hc1 hf
    refine r_aload_n h dX12_isWord_8 rfl 0 rfl ?_
    refine g_X12_244 h dX12_isWord_9 ht rC_86 ?_
    refine r_lload_n h dX12_isWord_12 rfl 1 rfl ?_
    refine r_lcmp h dX12_isWord_13 (hs0.2 _ _) ra1 ?_
    refine r_if_ne (tgt := 21) h dX12_isWord_14 (by decide) (rI_ycmp _ _) (fun hc2 => ?_) (fun hc2 => ?_)
    · have hf := ite_f hc2 hf
      refine r_iconst h dX12_isWord_21 ?_
      exact r_ret2 hr dX12_isWord_22 (Or.inl rfl) hf
    · have hf := ite_nf hc2 hf
      refine r_iconst h dX12_isWord_17 ?_
      refine r_goto (tgt := 22) h dX12_isWord_18 (by decide) ?_
      exact r_ret2 hr dX12_isWord_22 (Or.inr rfl) hf
set_option maxRecDepth 20000 in
theorem b_Mo_misplaced_14 {l : Launch} {D : va_G} {cs : Nat → ClassId} {aS aV : Nat} {A : Nat → Prop} {K : KT} {ad : Nat → Nat} {n : Nat} {nl : Nat → Nat → Bool} {out : Int × SS} (h : w_Cl l rm_Mo_misplaced D cs aS aV A cX12_misplaced 1 RX12 "misplaced" K) (hr : w_Rt 0 cX12_misplaced 0 0 (w_Po ad n nl out) K) (hw : w_WH n nl) (ht : 86 < n) (z1 : Int) (s0 : SS) (rz1 : rI z1) (hf : j_Mo_misplaced_14 z1 s0 = some out) : K ad n nl 0 0 14 [(0, .ref (ad 86))] [.int (vI z1), .ref (ad 86)] s0 := by
  unfold j_Mo_misplaced_14 at hf
  refine r_rS h (fun hs0 => ?_)
  refine r_aload_n h dX12_misplaced_14 rfl 0 rfl ?_
  refine g_X12_230 h dX12_misplaced_15 ht rC_86 ?_
  obtain ⟨r1, s1, hq1, hf⟩ := ob_some hf
  refine r_callV0 h [.int (vI z1), .int (vI (gi s0 86 6))] dX12_misplaced_18 (fun hs => m_Mo_fails hw ht rz1 (hs0.1 _ _) hs hq1) ml_X12_261 cv_Mo_fails rfl (co := 12) rfl (by decide) ht rC_86 ⟨rfl, rfl⟩ ⟨Nat.le_of_ble_eq_true rfl, Nat.le_of_ble_eq_true rfl⟩ ⟨Nat.le_of_ble_eq_true rfl, Nat.le_of_ble_eq_true rfl⟩ (Nat.le_of_ble_eq_true rfl) rfl (fun hr1 hs1 => ?_)
  exact r_ret0 (x := 0) hr dX12_misplaced_21 hf
set_option maxRecDepth 20000 in
theorem m_Mo_misplaced {l : Launch} {D : va_G} {cs : Nat → ClassId} {aS aV : Nat} {A : Nat → Prop} {ad : Nat → Nat} {n : Nat} {nl : Nat → Nat → Bool} {out : Int × SS} (hw : w_WH n nl) (ht : 86 < n) {s0 : SS} (hs0 : rS s0) (hf : f_Mo_misplaced s0 = some out) : w_MC l D cs aS aV A yX12_misplaced cX12_misplaced 1 0 rm_Mo_misplaced ad n nl [.ref (ad 86)] s0 (w_Po ad n nl out) := by
  refine w_MC_of (by decide +kernel) (by decide) hs0 (Nat.le_of_ble_eq_true rfl) (fun K h hr => ?_)
  refine r_lv (lv' := [(0, .ref (ad 86))]) rfl ?_
  unfold f_Mo_misplaced at hf
  refine r_rS h (fun hs0 => ?_)
  refine r_aload_n h dX12_misplaced_0 rfl 0 rfl ?_
  refine r_aload_n h dX12_misplaced_1 rfl 0 rfl ?_
  refine g_X12_237 h dX12_misplaced_2 ht rC_86 ?_
  refine r_iconst h dX12_misplaced_5 ?_
  refine r_icmp_ne (tgt := 13) h dX12_misplaced_6 (by decide) (hs0.1 _ _) (rIc rfl) (fun hc1 => ?_) (fun hc1 => ?_)
  · have hf := ite_f hc1 hf
    refine r_iconst h dX12_misplaced_13 ?_
    exact b_Mo_misplaced_14 h hr hw ht 2 s0 (rIc rfl) hf
  · have hf := ite_nf hc1 hf
    refine r_iconst h dX12_misplaced_9 ?_
    refine r_goto (tgt := 14) h dX12_misplaced_10 (by decide) ?_
    exact b_Mo_misplaced_14 h hr hw ht 1 s0 (rIc rfl) hf
set_option maxRecDepth 20000 in
theorem m_Mo_must {l : Launch} {D : va_G} {cs : Nat → ClassId} {aS aV : Nat} {A : Nat → Prop} {ad : Nat → Nat} {n : Nat} {nl : Nat → Nat → Bool} {out : Int × SS} (hw : w_WH n nl) (ht : 86 < n) {a1 : Int} (ba1 : a1 = 0 ∨ a1 = 1) {s0 : SS} (hs0 : rS s0) (hf : f_Mo_must a1 s0 = some out) : w_MC l D cs aS aV A yX12_must cX12_must 2 0 rm_Mo_must ad n nl [.ref (ad 86), .int (vI a1)] s0 (w_Po ad n nl out) := by
  refine w_MC_of (by decide +kernel) (by decide) hs0 (Nat.le_of_ble_eq_true rfl) (fun K h hr => ?_)
  refine r_lv (lv' := [(0, .ref (ad 86)), (1, .int (vI a1))]) rfl ?_
  unfold f_Mo_must at hf
  refine r_rS h (fun hs0 => ?_)
  refine r_aload_n h dX12_must_0 rfl 0 rfl ?_
  obtain ⟨r1, s1, hq1, hf⟩ := ob_some hf
  refine r_callV2 h [] dX12_must_1 (fun hs => m_Mo_isGood hw ht hs hq1) ml_X12_265 cv_Mo_isGood rfl (co := 12) rfl (by decide) ht rC_86 ⟨rfl, rfl⟩ ⟨Nat.le_of_ble_eq_true rfl, Nat.le_of_ble_eq_true rfl⟩ ⟨Nat.le_of_ble_eq_true rfl, Nat.le_of_ble_eq_true rfl⟩ (Nat.le_of_ble_eq_true rfl) rfl (fun hr1 hs1 => ?_)
  refine r_if_ne (tgt := 8) h dX12_must_4 (by decide) (rI_b hr1) (fun hc2 => ?_) (fun hc2 => ?_)
  · have hf := ite_f hc2 hf
    refine r_iload_n h dX12_must_8 rfl 1 rfl ?_
    refine r_if_eq (tgt := 19) h dX12_must_9 (by decide) (rI_b ba1) (fun hc3 => ?_) (fun hc3 => ?_)
    · have hf := ite_t hc3 hf
      refine r_aload_n h dX12_must_19 rfl 0 rfl ?_
      obtain ⟨r4, s4, hq4, hf⟩ := ob_some hf
      refine r_callV0 h [] dX12_must_20 (fun hs => m_Mo_misplaced hw ht hs hq4) ml_X12_272 cv_Mo_misplaced rfl (co := 12) rfl (by decide) ht rC_86 ⟨rfl, rfl⟩ ⟨Nat.le_of_ble_eq_true rfl, Nat.le_of_ble_eq_true rfl⟩ ⟨Nat.le_of_ble_eq_true rfl, Nat.le_of_ble_eq_true rfl⟩ (Nat.le_of_ble_eq_true rfl) rfl (fun hr4 hs4 => ?_)
      exact r_ret0 (x := 0) hr dX12_must_23 hf
    · have hf := ite_f hc3 hf
      refine r_aload_n h dX12_must_12 rfl 0 rfl ?_
      obtain ⟨r5, s5, hq5, hf⟩ := ob_some hf
      refine r_callV0 h [] dX12_must_13 (fun hs => m_Mo_goOn hw ht hs hq5) ml_X12_269 cv_Mo_goOn rfl (co := 12) rfl (by decide) ht rC_86 ⟨rfl, rfl⟩ ⟨Nat.le_of_ble_eq_true rfl, Nat.le_of_ble_eq_true rfl⟩ ⟨Nat.le_of_ble_eq_true rfl, Nat.le_of_ble_eq_true rfl⟩ (Nat.le_of_ble_eq_true rfl) rfl (fun hr5 hs5 => ?_)
      refine r_goto (tgt := 23) h dX12_must_16 (by decide) ?_
      exact r_ret0 (x := 0) hr dX12_must_23 hf
  · have hf := ite_nf hc2 hf
    exact r_ret0 (x := 0) hr dX12_must_7 hf
set_option maxRecDepth 20000 in
theorem b_Mo_numeral_69 {l : Launch} {D : va_G} {cs : Nat → ClassId} {aS aV : Nat} {A : Nat → Prop} {K : KT} {ad : Nat → Nat} {n : Nat} {nl : Nat → Nat → Bool} {out : Int × SS} (h : w_Cl l rm_Mo_numeral D cs aS aV A cX12_numeral 4 RX12 "numeral" K) (hr : w_Rt 1 cX12_numeral 0 0 (w_Po ad n nl out) K) (hw : w_WH n nl) (ht : 86 < n) (x1 : Int) (x3 : Int) (s0 : SS) (rx1 : rI x1) (rx3 : rI x3) (hf : j_Mo_numeral_69 x1 x3 s0 = some out) : K ad n nl 0 0 69 [(0, .ref (ad 86)), (1, .int (vI x1)), (3, .int (vI x3))] [] s0 := by
  unfold j_Mo_numeral_69 at hf
  refine r_rS h (fun hs0 => ?_)
  refine r_aload_n h dX12_numeral_69 rfl 0 rfl ?_
  obtain ⟨r1, s1, hq1, hf⟩ := ob_some hf
  refine r_callV2 h [] dX12_numeral_70 (fun hs => m_Mo_isGood hw ht hs hq1) ml_X12_265 cv_Mo_isGood rfl (co := 12) rfl (by decide) ht rC_86 ⟨rfl, rfl⟩ ⟨Nat.le_of_ble_eq_true rfl, Nat.le_of_ble_eq_true rfl⟩ ⟨Nat.le_of_ble_eq_true rfl, Nat.le_of_ble_eq_true rfl⟩ (Nat.le_of_ble_eq_true rfl) rfl (fun hr1 hs1 => ?_)
  refine r_if_eq (tgt := 80) h dX12_numeral_73 (by decide) (rI_b hr1) (fun hc2 => ?_) (fun hc2 => ?_)
  · have hf := ite_t hc2 hf
    refine r_iload_n h dX12_numeral_80 rfl 1 rfl ?_
    exact r_ret1 hr dX12_numeral_81 rx1 hf
  · have hf := ite_f hc2 hf
    refine r_iload_n h dX12_numeral_76 rfl 2 rfl ?_
    refine r_goto (tgt := 81) h dX12_numeral_77 (by decide) ?_
    exact r_ret1 hr dX12_numeral_81 rx3 hf
set_option maxRecDepth 20000 in
theorem b_Mo_numeral_53 {l : Launch} {D : va_G} {cs : Nat → ClassId} {aS aV : Nat} {A : Nat → Prop} {K : KT} {ad : Nat → Nat} {n : Nat} {nl : Nat → Nat → Bool} {out : Int × SS} (h : w_Cl l rm_Mo_numeral D cs aS aV A cX12_numeral 4 RX12 "numeral" K) (hr : w_Rt 1 cX12_numeral 0 0 (w_Po ad n nl out) K) (hw : w_WH n nl) (ht : 86 < n) (x1 : Int) (s0 : SS) (rx1 : rI x1) (hf : j_Mo_numeral_53 x1 s0 = some out) : K ad n nl 0 0 53 [(0, .ref (ad 86)), (1, .int (vI x1))] [] s0 := by
  unfold j_Mo_numeral_53 at hf
  refine r_rS h (fun hs0 => ?_)
  refine r_aload_n h dX12_numeral_53 rfl 0 rfl ?_
  refine g_X12_255 h dX12_numeral_54 ht rC_86 ?_
  refine r_ol hf (hs0.1 _ _) (fun x1_ rx1_ hf => ?_)
  refine r_istore_n h [(3, .int (vI x1_)), (0, .ref (ad 86)), (1, .int (vI x1))] dX12_numeral_57 rfl (by decide) rfl ?_
  refine r_aload_n h dX12_numeral_58 rfl 1 rfl ?_
  obtain ⟨r2, s2, hq2, hf⟩ := ob_some hf
  refine r_callV2 h [] dX12_numeral_59 (fun hs => m_Mo_isGood hw ht hs hq2) ml_X12_265 cv_Mo_isGood rfl (co := 12) rfl (by decide) ht rC_86 ⟨rfl, rfl⟩ ⟨Nat.le_of_ble_eq_true rfl, Nat.le_of_ble_eq_true rfl⟩ ⟨Nat.le_of_ble_eq_true rfl, Nat.le_of_ble_eq_true rfl⟩ (Nat.le_of_ble_eq_true rfl) rfl (fun hr2 hs2 => ?_)
  refine r_if_eq (tgt := 69) h dX12_numeral_62 (by decide) (rI_b hr2) (fun hc3 => ?_) (fun hc3 => ?_)
  · have hf := ite_t hc3 hf
    refine r_sub h [1, 2, 0] rfl ?_
    exact b_Mo_numeral_69 h hr hw ht x1 x1_ s2 rx1 rx1_ hf
  · have hf := ite_f hc3 hf
    refine r_aload_n h dX12_numeral_65 rfl 1 rfl ?_
    obtain ⟨r4, s4, hq4, hf⟩ := ob_some hf
    refine r_callV0 h [] dX12_numeral_66 (fun hs => m_Mo_goOn hw ht hs hq4) ml_X12_269 cv_Mo_goOn rfl (co := 12) rfl (by decide) ht rC_86 ⟨rfl, rfl⟩ ⟨Nat.le_of_ble_eq_true rfl, Nat.le_of_ble_eq_true rfl⟩ ⟨Nat.le_of_ble_eq_true rfl, Nat.le_of_ble_eq_true rfl⟩ (Nat.le_of_ble_eq_true rfl) rfl (fun hr4 hs4 => ?_)
    refine r_sub h [1, 2, 0] rfl ?_
    exact b_Mo_numeral_69 h hr hw ht x1 x1_ s4 rx1 rx1_ hf
set_option maxRecDepth 20000 in
theorem b_Mo_numeral_44 {l : Launch} {D : va_G} {cs : Nat → ClassId} {aS aV : Nat} {A : Nat → Prop} {K : KT} {ad : Nat → Nat} {n : Nat} {nl : Nat → Nat → Bool} {out : Int × SS} (h : w_Cl l rm_Mo_numeral D cs aS aV A cX12_numeral 4 RX12 "numeral" K) (hr : w_Rt 1 cX12_numeral 0 0 (w_Po ad n nl out) K) (hw : w_WH n nl) (ht : 86 < n) (x1 : Int) (s0 : SS) (rx1 : rI x1) (hf : j_Mo_numeral_44 x1 s0 = some out) : K ad n nl 0 0 44 [(0, .ref (ad 86)), (1, .int (vI x1))] [] s0 := by
  unfold j_Mo_numeral_44 at hf
  refine r_rS h (fun hs0 => ?_)
  refine r_aload_n h dX12_numeral_44 rfl 0 rfl ?_
  refine r_iconst h dX12_numeral_45 ?_
  refine r_aload_n h dX12_numeral_46 rfl 0 rfl ?_
  refine g_X12_230 h dX12_numeral_47 ht rC_86 ?_
  obtain ⟨r1, s1, hq1, hf⟩ := ob_some hf
  refine r_callV0 h [.int (vI 4), .int (vI (gi s0 86 6))] dX12_numeral_50 (fun hs => m_Mo_fails hw ht (rIc rfl) (hs0.1 _ _) hs hq1) ml_X12_261 cv_Mo_fails rfl (co := 12) rfl (by decide) ht rC_86 ⟨rfl, rfl⟩ ⟨Nat.le_of_ble_eq_true rfl, Nat.le_of_ble_eq_true rfl⟩ ⟨Nat.le_of_ble_eq_true rfl, Nat.le_of_ble_eq_true rfl⟩ (Nat.le_of_ble_eq_true rfl) rfl (fun hr1 hs1 => ?_)
  exact b_Mo_numeral_53 h hr hw ht x1 s1 rx1 hf
set_option maxRecDepth 20000 in
theorem b_Mo_numeral_21 {l : Launch} {D : va_G} {cs : Nat → ClassId} {aS aV : Nat} {A : Nat → Prop} {K : KT} {ad : Nat → Nat} {n : Nat} {nl : Nat → Nat → Bool} {out : Int × SS} (h : w_Cl l rm_Mo_numeral D cs aS aV A cX12_numeral 4 RX12 "numeral" K) (hr : w_Rt 1 cX12_numeral 0 0 (w_Po ad n nl out) K) (hw : w_WH n nl) (ht : 86 < n) (x1 : Int) (x2 : Int) (s0 : SS) (rx1 : rI x1) (rx2 : rI x2) (hf : j_Mo_numeral_21 x1 x2 s0 = some out) : K ad n nl 0 0 21 [(0, .ref (ad 86)), (1, .int (vI x1)), (2, .int (vI x2))] [] s0 := by
  unfold j_Mo_numeral_21 at hf
  refine r_rS h (fun hs0 => ?_)
  refine r_aload_n h dX12_numeral_21 rfl 0 rfl ?_
  obtain ⟨r1, s1, hq1, hf⟩ := ob_some hf
  refine r_callV2 h [] dX12_numeral_22 (fun hs => m_Mo_isGood hw ht hs hq1) ml_X12_265 cv_Mo_isGood rfl (co := 12) rfl (by decide) ht rC_86 ⟨rfl, rfl⟩ ⟨Nat.le_of_ble_eq_true rfl, Nat.le_of_ble_eq_true rfl⟩ ⟨Nat.le_of_ble_eq_true rfl, Nat.le_of_ble_eq_true rfl⟩ (Nat.le_of_ble_eq_true rfl) rfl (fun hr1 hs1 => ?_)
  refine r_if_eq (tgt := 53) h dX12_numeral_25 (by decide) (rI_b hr1) (fun hc2 => ?_) (fun hc2 => ?_)
  · have hf := ite_t hc2 hf
    refine r_sub h [0, 1] rfl ?_
    exact b_Mo_numeral_53 h hr hw ht x1 s1 rx1 hf
  · have hf := ite_f hc2 hf
    refine r_aload_n h dX12_numeral_28 rfl 0 rfl ?_
    refine g_X12_255 h dX12_numeral_29 ht rC_86 ?_
    refine r_iload_n h dX12_numeral_32 rfl 1 rfl ?_
    refine r_icmp_lt (tgt := 44) h dX12_numeral_33 (by decide) (hs1.1 _ _) rx1 (fun hc3 => ?_) (fun hc3 => ?_)
    · have hf := ite_t hc3 hf
      refine r_sub h [0, 1] rfl ?_
      exact b_Mo_numeral_44 h hr hw ht x1 s1 rx1 hf
    · have hf := ite_f hc3 hf
      refine r_aload_n h dX12_numeral_36 rfl 0 rfl ?_
      refine g_X12_255 h dX12_numeral_37 ht rC_86 ?_
      refine r_iload_n h dX12_numeral_40 rfl 2 rfl ?_
      refine r_icmp_le (tgt := 53) h dX12_numeral_41 (by decide) (hs1.1 _ _) rx2 (fun hc4 => ?_) (fun hc4 => ?_)
      · have hf := ite_t hc4 hf
        refine r_sub h [0, 1] rfl ?_
        exact b_Mo_numeral_53 h hr hw ht x1 s1 rx1 hf
      · have hf := ite_f hc4 hf
        refine r_sub h [0, 1] rfl ?_
        exact b_Mo_numeral_44 h hr hw ht x1 s1 rx1 hf
set_option maxRecDepth 20000 in
theorem m_Mo_numeral {l : Launch} {D : va_G} {cs : Nat → ClassId} {aS aV : Nat} {A : Nat → Prop} {ad : Nat → Nat} {n : Nat} {nl : Nat → Nat → Bool} {out : Int × SS} (hw : w_WH n nl) (ht : 86 < n) {a1 : Int} (ra1 : rI a1) {a2 : Int} (ra2 : rI a2) {s0 : SS} (hs0 : rS s0) (hf : f_Mo_numeral a1 a2 s0 = some out) : w_MC l D cs aS aV A yX12_numeral cX12_numeral 4 1 rm_Mo_numeral ad n nl [.ref (ad 86), .int (vI a1), .int (vI a2)] s0 (w_Po ad n nl out) := by
  refine w_MC_of (by decide +kernel) (by decide) hs0 (Nat.le_of_ble_eq_true rfl) (fun K h hr => ?_)
  refine r_lv (lv' := [(0, .ref (ad 86)), (1, .int (vI a1)), (2, .int (vI a2))]) rfl ?_
  unfold f_Mo_numeral at hf
  refine r_rS h (fun hs0 => ?_)
  refine r_aload_n h dX12_numeral_0 rfl 0 rfl ?_
  obtain ⟨r1, s1, hq1, hf⟩ := ob_some hf
  refine r_callV2 h [] dX12_numeral_1 (fun hs => m_Mo_isGood hw ht hs hq1) ml_X12_265 cv_Mo_isGood rfl (co := 12) rfl (by decide) ht rC_86 ⟨rfl, rfl⟩ ⟨Nat.le_of_ble_eq_true rfl, Nat.le_of_ble_eq_true rfl⟩ ⟨Nat.le_of_ble_eq_true rfl, Nat.le_of_ble_eq_true rfl⟩ (Nat.le_of_ble_eq_true rfl) rfl (fun hr1 hs1 => ?_)
  refine r_if_ne (tgt := 9) h dX12_numeral_4 (by decide) (rI_b hr1) (fun hc2 => ?_) (fun hc2 => ?_)
  · have hf := ite_f hc2 hf
    refine r_aload_n h dX12_numeral_9 rfl 0 rfl ?_
    refine g_X12_237 h dX12_numeral_10 ht rC_86 ?_
    refine r_iconst h dX12_numeral_13 ?_
    refine r_icmp_eq (tgt := 21) h dX12_numeral_14 (by decide) (hs1.1 _ _) (rIc rfl) (fun hc3 => ?_) (fun hc3 => ?_)
    · have hf := ite_t hc3 hf
      exact b_Mo_numeral_21 h hr hw ht a1 a2 s1 ra1 ra2 hf
    · have hf := ite_f hc3 hf
      refine r_aload_n h dX12_numeral_17 rfl 0 rfl ?_
      obtain ⟨r4, s4, hq4, hf⟩ := ob_some hf
      refine r_callV0 h [] dX12_numeral_18 (fun hs => m_Mo_misplaced hw ht hs hq4) ml_X12_272 cv_Mo_misplaced rfl (co := 12) rfl (by decide) ht rC_86 ⟨rfl, rfl⟩ ⟨Nat.le_of_ble_eq_true rfl, Nat.le_of_ble_eq_true rfl⟩ ⟨Nat.le_of_ble_eq_true rfl, Nat.le_of_ble_eq_true rfl⟩ (Nat.le_of_ble_eq_true rfl) rfl (fun hr4 hs4 => ?_)
      exact b_Mo_numeral_21 h hr hw ht a1 a2 s4 ra1 ra2 hf
  · have hf := ite_nf hc2 hf
    refine r_iload_n h dX12_numeral_7 rfl 1 rfl ?_
    exact r_ret1 hr dX12_numeral_8 ra1 hf
set_option maxRecDepth 20000 in
theorem m_Mo_after {l : Launch} {D : va_G} {cs : Nat → ClassId} {aS aV : Nat} {A : Nat → Prop} {ad : Nat → Nat} {n : Nat} {nl : Nat → Nat → Bool} {out : Int × SS} (hw : w_WH n nl) (ht : 86 < n) {a1 : Int} (ra1 : rJ a1) {a2 : Int} (ra2 : rI a2) {a3 : Int} (ra3 : rI a3) {s0 : SS} (hs0 : rS s0) (hf : f_Mo_after a1 a2 a3 s0 = some out) : w_MC l D cs aS aV A yX12_after cX12_after 5 1 rm_Mo_after ad n nl [.ref (ad 86), .long (vJ a1), .int (vI a2), .int (vI a3)] s0 (w_Po ad n nl out) := by
  refine w_MC_of (by decide +kernel) (by decide) hs0 (Nat.le_of_ble_eq_true rfl) (fun K h hr => ?_)
  refine r_lv (lv' := [(0, .ref (ad 86)), (1, .long (vJ a1)), (3, .int (vI a2)), (4, .int (vI a3))]) rfl ?_
  unfold f_Mo_after at hf
  refine r_rS h (fun hs0 => ?_)
  refine r_aload_n h dX12_after_0 rfl 0 rfl ?_
  refine r_aload_n h dX12_after_1 rfl 0 rfl ?_
  refine r_lload_n h dX12_after_2 rfl 1 rfl ?_
  obtain ⟨r1, s1, hq1, hf⟩ := ob_some hf
  refine r_callV2 h [.long (vJ a1)] dX12_after_3 (fun hs => m_Mo_isWord hw ht ra1 hs hq1) ml_X12_275 cv_Mo_isWord rfl (co := 12) rfl (by decide) ht rC_86 ⟨rfl, rfl⟩ ⟨Nat.le_of_ble_eq_true rfl, Nat.le_of_ble_eq_true rfl⟩ ⟨Nat.le_of_ble_eq_true rfl, Nat.le_of_ble_eq_true rfl⟩ (Nat.le_of_ble_eq_true rfl) rfl (fun hr1 hs1 => ?_)
  obtain ⟨r2, s2, hq2, hf⟩ := ob_some hf
  refine r_callV0 h [.int (vI r1)] dX12_after_6 (fun hs => m_Mo_must hw ht hr1 hs hq2) ml_X12_278 cv_Mo_must rfl (co := 12) rfl (by decide) ht rC_86 ⟨rfl, rfl⟩ ⟨Nat.le_of_ble_eq_true rfl, Nat.le_of_ble_eq_true rfl⟩ ⟨Nat.le_of_ble_eq_true rfl, Nat.le_of_ble_eq_true rfl⟩ (Nat.le_of_ble_eq_true rfl) rfl (fun hr2 hs2 => ?_)
  refine r_aload_n h dX12_after_9 rfl 0 rfl ?_
  refine r_iload_n h dX12_after_10 rfl 2 rfl ?_
  refine r_iload h dX12_after_11 3 rfl ?_
  obtain ⟨r3, s3, hq3, hf⟩ := ob_some hf
  refine r_callV1 h [.int (vI a2), .int (vI a3)] dX12_after_13 (fun hs => m_Mo_numeral hw ht ra2 ra3 hs hq3) ml_X12_282 cv_Mo_numeral rfl (co := 12) rfl (by decide) ht rC_86 ⟨rfl, rfl⟩ ⟨Nat.le_of_ble_eq_true rfl, Nat.le_of_ble_eq_true rfl⟩ ⟨Nat.le_of_ble_eq_true rfl, Nat.le_of_ble_eq_true rfl⟩ (Nat.le_of_ble_eq_true rfl) rfl (fun hr3 hs3 => ?_)
  exact r_ret1 hr dX12_after_16 hr3 hf
set_option maxRecDepth 20000 in
theorem m_Mo_clearBank {l : Launch} {D : va_G} {cs : Nat → ClassId} {aS aV : Nat} {A : Nat → Prop} {ad : Nat → Nat} {n : Nat} {nl : Nat → Nat → Bool} {out : Int × SS} (hw : w_WH n nl) (ht : 86 < n) {s0 : SS} (hs0 : rS s0) (hf : f_Mo_clearBank s0 = some out) : w_MC l D cs aS aV A yX12_clearBank cX12_clearBank 1 0 rm_Mo_clearBank ad n nl [.ref (ad 86)] s0 (w_Po ad n nl out) := by
  refine w_MC_of (by decide +kernel) (by decide) hs0 (Nat.le_of_ble_eq_true rfl) (fun K h hr => ?_)
  refine r_lv (lv' := [(0, .ref (ad 86))]) rfl ?_
  unfold f_Mo_clearBank at hf
  refine r_rS h (fun hs0 => ?_)
  refine r_aload_n h dX12_clearBank_0 rfl 0 rfl ?_
  have hq1 := w_ref hw ht rC_86 (by decide) (k := 11) (by decide) rf_12_11
  refine g_X12_20 h dX12_clearBank_1 ht rC_86 hq1.1 ?_
  refine r_aload_n h dX12_clearBank_4 rfl 0 rfl ?_
  refine g_X12_286 h dX12_clearBank_5 ht rC_86 ?_
  refine r_iconst h dX12_clearBank_8 ?_
  obtain ⟨hi2, hf⟩ := oc_some hf
  refine r_iast h dX12_clearBank_9 hq1.2 rC_89 (hs0.1 _ _) (N := 2) (by rw [rN_89]; rfl) (j := (gi s0 86 41).toNat) rfl hi2 (rIc rfl) ?_
  refine r_os hf (fun s3 hf => ?_)
  refine r_rS h (fun hs3 => ?_)
  refine r_aload_n h dX12_clearBank_10 rfl 0 rfl ?_
  have hq4 := w_ref hw ht rC_86 (by decide) (k := 12) (by decide) rf_12_12
  refine g_X12_24 h dX12_clearBank_11 ht rC_86 hq4.1 ?_
  refine r_aload_n h dX12_clearBank_14 rfl 0 rfl ?_
  refine g_X12_286 h dX12_clearBank_15 ht rC_86 ?_
  refine r_iconst h dX12_clearBank_18 ?_
  obtain ⟨hi5, hf⟩ := oc_some hf
  refine r_iast h dX12_clearBank_19 hq4.2 rC_90 (hs3.1 _ _) (N := 2) (by rw [rN_90]; rfl) (j := (gi s3 86 41).toNat) rfl hi5 (rIc rfl) ?_
  refine r_os hf (fun s6 hf => ?_)
  refine r_rS h (fun hs6 => ?_)
  refine r_aload_n h dX12_clearBank_20 rfl 0 rfl ?_
  have hq7 := w_ref hw ht rC_86 (by decide) (k := 13) (by decide) rf_12_13
  refine g_X12_27 h dX12_clearBank_21 ht rC_86 hq7.1 ?_
  refine r_aload_n h dX12_clearBank_24 rfl 0 rfl ?_
  refine g_X12_286 h dX12_clearBank_25 ht rC_86 ?_
  refine r_iconst h dX12_clearBank_28 ?_
  obtain ⟨hi8, hf⟩ := oc_some hf
  refine r_iast h dX12_clearBank_29 hq7.2 rC_91 (hs6.1 _ _) (N := 2) (by rw [rN_91]; rfl) (j := (gi s6 86 41).toNat) rfl hi8 (rIc rfl) ?_
  refine r_os hf (fun s9 hf => ?_)
  refine r_rS h (fun hs9 => ?_)
  refine r_aload_n h dX12_clearBank_30 rfl 0 rfl ?_
  have hq10 := w_ref hw ht rC_86 (by decide) (k := 14) (by decide) rf_12_14
  refine g_X12_30 h dX12_clearBank_31 ht rC_86 hq10.1 ?_
  refine r_aload_n h dX12_clearBank_34 rfl 0 rfl ?_
  refine g_X12_286 h dX12_clearBank_35 ht rC_86 ?_
  refine r_iconst h dX12_clearBank_38 ?_
  obtain ⟨hi11, hf⟩ := oc_some hf
  refine r_iast h dX12_clearBank_39 hq10.2 rC_92 (hs9.1 _ _) (N := 2) (by rw [rN_92]; rfl) (j := (gi s9 86 41).toNat) rfl hi11 (rIc rfl) ?_
  refine r_os hf (fun s12 hf => ?_)
  refine r_rS h (fun hs12 => ?_)
  refine r_aload_n h dX12_clearBank_40 rfl 0 rfl ?_
  have hq13 := w_ref hw ht rC_86 (by decide) (k := 15) (by decide) rf_12_15
  refine g_X12_33 h dX12_clearBank_41 ht rC_86 hq13.1 ?_
  refine r_aload_n h dX12_clearBank_44 rfl 0 rfl ?_
  refine g_X12_286 h dX12_clearBank_45 ht rC_86 ?_
  refine r_iconst h dX12_clearBank_48 ?_
  obtain ⟨hi14, hf⟩ := oc_some hf
  refine r_iast h dX12_clearBank_49 hq13.2 rC_93 (hs12.1 _ _) (N := 2) (by rw [rN_93]; rfl) (j := (gi s12 86 41).toNat) rfl hi14 (rIc rfl) ?_
  refine r_os hf (fun s15 hf => ?_)
  refine r_rS h (fun hs15 => ?_)
  refine r_aload_n h dX12_clearBank_50 rfl 0 rfl ?_
  have hq16 := w_ref hw ht rC_86 (by decide) (k := 16) (by decide) rf_12_16
  refine g_X12_36 h dX12_clearBank_51 ht rC_86 hq16.1 ?_
  refine r_aload_n h dX12_clearBank_54 rfl 0 rfl ?_
  refine g_X12_286 h dX12_clearBank_55 ht rC_86 ?_
  refine r_iconst h dX12_clearBank_58 ?_
  obtain ⟨hi17, hf⟩ := oc_some hf
  refine r_iast h dX12_clearBank_59 hq16.2 rC_94 (hs15.1 _ _) (N := 2) (by rw [rN_94]; rfl) (j := (gi s15 86 41).toNat) rfl hi17 (rIc rfl) ?_
  refine r_os hf (fun s18 hf => ?_)
  refine r_rS h (fun hs18 => ?_)
  refine r_aload_n h dX12_clearBank_60 rfl 0 rfl ?_
  have hq19 := w_ref hw ht rC_86 (by decide) (k := 30) (by decide) rf_12_30
  refine g_X12_78 h dX12_clearBank_61 ht rC_86 hq19.1 ?_
  refine r_aload_n h dX12_clearBank_64 rfl 0 rfl ?_
  refine g_X12_286 h dX12_clearBank_65 ht rC_86 ?_
  refine r_iconst h dX12_clearBank_68 ?_
  obtain ⟨hi20, hf⟩ := oc_some hf
  refine r_zast h dX12_clearBank_69 hq19.2 rC_108 (hs18.1 _ _) (N := 2) (by rw [rN_108]; rfl) (j := (gi s18 86 41).toNat) rfl hi20 (Or.inl rfl) ?_
  refine r_os hf (fun s21 hf => ?_)
  refine r_rS h (fun hs21 => ?_)
  refine r_aload_n h dX12_clearBank_70 rfl 0 rfl ?_
  have hq22 := w_ref hw ht rC_86 (by decide) (k := 31) (by decide) rf_12_31
  refine g_X12_82 h dX12_clearBank_71 ht rC_86 hq22.1 ?_
  refine r_iconst h dX12_clearBank_74 ?_
  refine r_aload_n h dX12_clearBank_75 rfl 0 rfl ?_
  refine g_X12_286 h dX12_clearBank_76 ht rC_86 ?_
  refine r_imul h dX12_clearBank_79 ?_
  refine r_iconst h dX12_clearBank_80 ?_
  obtain ⟨hi23, hf⟩ := oc_some hf
  refine r_zast h dX12_clearBank_81 hq22.2 rC_109 (rI_iw _) (N := 4) (by rw [rN_109]; rfl) (j := (iw (2 * (gi s21 86 41))).toNat) rfl hi23 (Or.inl rfl) ?_
  refine r_os hf (fun s24 hf => ?_)
  refine r_rS h (fun hs24 => ?_)
  refine r_aload_n h dX12_clearBank_82 rfl 0 rfl ?_
  have hq25 := w_ref hw ht rC_86 (by decide) (k := 31) (by decide) rf_12_31
  refine g_X12_82 h dX12_clearBank_83 ht rC_86 hq25.1 ?_
  refine r_iconst h dX12_clearBank_86 ?_
  refine r_aload_n h dX12_clearBank_87 rfl 0 rfl ?_
  refine g_X12_286 h dX12_clearBank_88 ht rC_86 ?_
  refine r_imul h dX12_clearBank_91 ?_
  refine r_iconst h dX12_clearBank_92 ?_
  refine r_iadd h dX12_clearBank_93 ?_
  refine r_iconst h dX12_clearBank_94 ?_
  obtain ⟨hi26, hf⟩ := oc_some hf
  refine r_zast h dX12_clearBank_95 hq25.2 rC_109 (rI_iw _) (N := 4) (by rw [rN_109]; rfl) (j := (iw ((iw (2 * (gi s24 86 41))) + 1)).toNat) rfl hi26 (Or.inl rfl) ?_
  refine r_os hf (fun s27 hf => ?_)
  refine r_rS h (fun hs27 => ?_)
  refine r_aload_n h dX12_clearBank_96 rfl 0 rfl ?_
  refine r_sipush h dX12_clearBank_97 (by decide) ?_
  refine r_aload_n h dX12_clearBank_100 rfl 0 rfl ?_
  refine g_X12_286 h dX12_clearBank_101 ht rC_86 ?_
  refine r_imul h dX12_clearBank_104 ?_
  refine p_X12_289 h dX12_clearBank_105 ht rC_86 (rI_iw _) ?_
  refine r_os hf (fun s28 hf => ?_)
  refine r_rS h (fun hs28 => ?_)
  exact r_ret0 (x := 0) hr dX12_clearBank_108 hf
set_option maxRecDepth 20000 in
theorem m_Mo_isFull {l : Launch} {D : va_G} {cs : Nat → ClassId} {aS aV : Nat} {A : Nat → Prop} {ad : Nat → Nat} {n : Nat} {nl : Nat → Nat → Bool} {out : Int × SS} (hw : w_WH n nl) (ht : 86 < n) {s0 : SS} (hs0 : rS s0) (hf : f_Mo_isFull s0 = some out) : w_MC l D cs aS aV A yX12_isFull cX12_isFull 1 2 rm_Mo_isFull ad n nl [.ref (ad 86)] s0 (w_Po ad n nl out) := by
  refine w_MC_of (by decide +kernel) (by decide) hs0 (Nat.le_of_ble_eq_true rfl) (fun K h hr => ?_)
  refine r_lv (lv' := [(0, .ref (ad 86))]) rfl ?_
  unfold f_Mo_isFull at hf
  refine r_rS h (fun hs0 => ?_)
  refine r_aload_n h dX12_isFull_0 rfl 0 rfl ?_
  refine r_ldc2 (x := 482854658917) h dX12_isFull_1 (gt_in7 124 rfl rfl) rfl ?_
  obtain ⟨r1, s1, hq1, hf⟩ := ob_some hf
  refine r_callV2 h [.long (vJ 482854658917)] dX12_isFull_4 (fun hs => m_Mo_isWord hw ht (rJc rfl) hs hq1) ml_X12_275 cv_Mo_isWord rfl (co := 12) rfl (by decide) ht rC_86 ⟨rfl, rfl⟩ ⟨Nat.le_of_ble_eq_true rfl, Nat.le_of_ble_eq_true rfl⟩ ⟨Nat.le_of_ble_eq_true rfl, Nat.le_of_ble_eq_true rfl⟩ (Nat.le_of_ble_eq_true rfl) rfl (fun hr1 hs1 => ?_)
  refine r_if_eq (tgt := 30) h dX12_isFull_7 (by decide) (rI_b hr1) (fun hc2 => ?_) (fun hc2 => ?_)
  · have hf := ite_t hc2 hf
    refine r_aload_n h dX12_isFull_30 rfl 0 rfl ?_
    refine r_ldc2 (x := 7823737) h dX12_isFull_31 (gt_in7 127 rfl rfl) rfl ?_
    obtain ⟨r3, s3, hq3, hf⟩ := ob_some hf
    refine r_callV2 h [.long (vJ 7823737)] dX12_isFull_34 (fun hs => m_Mo_isWord hw ht (rJc rfl) hs hq3) ml_X12_275 cv_Mo_isWord rfl (co := 12) rfl (by decide) ht rC_86 ⟨rfl, rfl⟩ ⟨Nat.le_of_ble_eq_true rfl, Nat.le_of_ble_eq_true rfl⟩ ⟨Nat.le_of_ble_eq_true rfl, Nat.le_of_ble_eq_true rfl⟩ (Nat.le_of_ble_eq_true rfl) rfl (fun hr3 hs3 => ?_)
    refine r_if_eq (tgt := 60) h dX12_isFull_37 (by decide) (rI_b hr3) (fun hc4 => ?_) (fun hc4 => ?_)
    · have hf := ite_t hc4 hf
      refine r_aload_n h dX12_isFull_60 rfl 0 rfl ?_
      refine r_ldc2 (x := 1936684396) h dX12_isFull_61 (gt_in7 130 rfl rfl) rfl ?_
      obtain ⟨r5, s5, hq5, hf⟩ := ob_some hf
      refine r_callV2 h [.long (vJ 1936684396)] dX12_isFull_64 (fun hs => m_Mo_isWord hw ht (rJc rfl) hs hq5) ml_X12_275 cv_Mo_isWord rfl (co := 12) rfl (by decide) ht rC_86 ⟨rfl, rfl⟩ ⟨Nat.le_of_ble_eq_true rfl, Nat.le_of_ble_eq_true rfl⟩ ⟨Nat.le_of_ble_eq_true rfl, Nat.le_of_ble_eq_true rfl⟩ (Nat.le_of_ble_eq_true rfl) rfl (fun hr5 hs5 => ?_)
      refine r_if_eq (tgt := 90) h dX12_isFull_67 (by decide) (rI_b hr5) (fun hc6 => ?_) (fun hc6 => ?_)
      · have hf := ite_t hc6 hf
        refine r_aload_n h dX12_isFull_90 rfl 0 rfl ?_
        refine r_ldc2 (x := 120265333040498) h dX12_isFull_91 (gt_in7 133 rfl rfl) rfl ?_
        obtain ⟨r7, s7, hq7, hf⟩ := ob_some hf
        refine r_callV2 h [.long (vJ 120265333040498)] dX12_isFull_94 (fun hs => m_Mo_isWord hw ht (rJc rfl) hs hq7) ml_X12_275 cv_Mo_isWord rfl (co := 12) rfl (by decide) ht rC_86 ⟨rfl, rfl⟩ ⟨Nat.le_of_ble_eq_true rfl, Nat.le_of_ble_eq_true rfl⟩ ⟨Nat.le_of_ble_eq_true rfl, Nat.le_of_ble_eq_true rfl⟩ (Nat.le_of_ble_eq_true rfl) rfl (fun hr7 hs7 => ?_)
        refine r_if_eq (tgt := 120) h dX12_isFull_97 (by decide) (rI_b hr7) (fun hc8 => ?_) (fun hc8 => ?_)
        · have hf := ite_t hc8 hf
          refine r_aload_n h dX12_isFull_120 rfl 0 rfl ?_
          refine r_ldc2 (x := 1751474548) h dX12_isFull_121 (gt_in7 136 rfl rfl) rfl ?_
          obtain ⟨r9, s9, hq9, hf⟩ := ob_some hf
          refine r_callV2 h [.long (vJ 1751474548)] dX12_isFull_124 (fun hs => m_Mo_isWord hw ht (rJc rfl) hs hq9) ml_X12_275 cv_Mo_isWord rfl (co := 12) rfl (by decide) ht rC_86 ⟨rfl, rfl⟩ ⟨Nat.le_of_ble_eq_true rfl, Nat.le_of_ble_eq_true rfl⟩ ⟨Nat.le_of_ble_eq_true rfl, Nat.le_of_ble_eq_true rfl⟩ (Nat.le_of_ble_eq_true rfl) rfl (fun hr9 hs9 => ?_)
          refine r_if_eq (tgt := 142) h dX12_isFull_127 (by decide) (rI_b hr9) (fun hc10 => ?_) (fun hc10 => ?_)
          · have hf := ite_t hc10 hf
            refine r_aload_n h dX12_isFull_142 rfl 0 rfl ?_
            refine r_ldc2 (x := 1650549611) h dX12_isFull_143 (gt_in7 137 rfl rfl) rfl ?_
            obtain ⟨r11, s11, hq11, hf⟩ := ob_some hf
            refine r_callV2 h [.long (vJ 1650549611)] dX12_isFull_146 (fun hs => m_Mo_isWord hw ht (rJc rfl) hs hq11) ml_X12_275 cv_Mo_isWord rfl (co := 12) rfl (by decide) ht rC_86 ⟨rfl, rfl⟩ ⟨Nat.le_of_ble_eq_true rfl, Nat.le_of_ble_eq_true rfl⟩ ⟨Nat.le_of_ble_eq_true rfl, Nat.le_of_ble_eq_true rfl⟩ (Nat.le_of_ble_eq_true rfl) rfl (fun hr11 hs11 => ?_)
            refine r_if_eq (tgt := 166) h dX12_isFull_149 (by decide) (rI_b hr11) (fun hc12 => ?_) (fun hc12 => ?_)
            · have hf := ite_t hc12 hf
              refine r_aload_n h dX12_isFull_166 rfl 0 rfl ?_
              refine r_ldc2 (x := 1685217655) h dX12_isFull_167 (gt_in7 138 rfl rfl) rfl ?_
              obtain ⟨r13, s13, hq13, hf⟩ := ob_some hf
              refine r_callV2 h [.long (vJ 1685217655)] dX12_isFull_170 (fun hs => m_Mo_isWord hw ht (rJc rfl) hs hq13) ml_X12_275 cv_Mo_isWord rfl (co := 12) rfl (by decide) ht rC_86 ⟨rfl, rfl⟩ ⟨Nat.le_of_ble_eq_true rfl, Nat.le_of_ble_eq_true rfl⟩ ⟨Nat.le_of_ble_eq_true rfl, Nat.le_of_ble_eq_true rfl⟩ (Nat.le_of_ble_eq_true rfl) rfl (fun hr13 hs13 => ?_)
              refine r_if_eq (tgt := 188) h dX12_isFull_173 (by decide) (rI_b hr13) (fun hc14 => ?_) (fun hc14 => ?_)
              · have hf := ite_t hc14 hf
                refine r_iconst h dX12_isFull_188 ?_
                refine r_goto (tgt := 193) h dX12_isFull_189 (by decide) ?_
                exact r_ret2 hr dX12_isFull_193 (Or.inr rfl) hf
              · have hf := ite_f hc14 hf
                refine r_aload_n h dX12_isFull_176 rfl 0 rfl ?_
                have hq15 := w_ref hw ht rC_86 (by decide) (k := 30) (by decide) rf_12_30
                refine g_X12_78 h dX12_isFull_177 ht rC_86 hq15.1 ?_
                refine r_aload_n h dX12_isFull_180 rfl 0 rfl ?_
                refine g_X12_286 h dX12_isFull_181 ht rC_86 ?_
                obtain ⟨hi16, hf⟩ := oc_some hf
                refine r_zald h dX12_isFull_184 hq15.2 rC_108 (hs13.1 _ _) (N := 2) (by rw [rN_108]; rfl) (j := (gi s13 86 41).toNat) rfl hi16 ?_
                refine r_if_eq (tgt := 192) h dX12_isFull_185 (by decide) (hs13.1 _ _) (fun hc17 => ?_) (fun hc17 => ?_)
                · have hf := ite_t hc17 hf
                  refine r_iconst h dX12_isFull_192 ?_
                  exact r_ret2 hr dX12_isFull_193 (Or.inl rfl) hf
                · have hf := ite_f hc17 hf
                  refine r_iconst h dX12_isFull_188 ?_
                  refine r_goto (tgt := 193) h dX12_isFull_189 (by decide) ?_
                  exact r_ret2 hr dX12_isFull_193 (Or.inr rfl) hf
            · have hf := ite_f hc12 hf
              refine r_aload_n h dX12_isFull_152 rfl 0 rfl ?_
              have hq18 := w_ref hw ht rC_86 (by decide) (k := 31) (by decide) rf_12_31
              refine g_X12_82 h dX12_isFull_153 ht rC_86 hq18.1 ?_
              refine r_iconst h dX12_isFull_156 ?_
              refine r_aload_n h dX12_isFull_157 rfl 0 rfl ?_
              refine g_X12_286 h dX12_isFull_158 ht rC_86 ?_
              refine r_imul h dX12_isFull_161 ?_
              refine r_iconst h dX12_isFull_162 ?_
              refine r_iadd h dX12_isFull_163 ?_
              obtain ⟨hi19, hf⟩ := oc_some hf
              refine r_zald h dX12_isFull_164 hq18.2 rC_109 (rI_iw _) (N := 4) (by rw [rN_109]; rfl) (j := (iw ((iw (2 * (gi s11 86 41))) + 1)).toNat) rfl hi19 ?_
              obtain ⟨hb20, hf⟩ := oc_some hf
              exact r_ret2 hr dX12_isFull_165 hb20 hf
          · have hf := ite_f hc10 hf
            refine r_aload_n h dX12_isFull_130 rfl 0 rfl ?_
            have hq21 := w_ref hw ht rC_86 (by decide) (k := 31) (by decide) rf_12_31
            refine g_X12_82 h dX12_isFull_131 ht rC_86 hq21.1 ?_
            refine r_iconst h dX12_isFull_134 ?_
            refine r_aload_n h dX12_isFull_135 rfl 0 rfl ?_
            refine g_X12_286 h dX12_isFull_136 ht rC_86 ?_
            refine r_imul h dX12_isFull_139 ?_
            obtain ⟨hi22, hf⟩ := oc_some hf
            refine r_zald h dX12_isFull_140 hq21.2 rC_109 (rI_iw _) (N := 4) (by rw [rN_109]; rfl) (j := (iw (2 * (gi s9 86 41))).toNat) rfl hi22 ?_
            obtain ⟨hb23, hf⟩ := oc_some hf
            exact r_ret2 hr dX12_isFull_141 hb23 hf
        · have hf := ite_f hc8 hf
          refine r_aload_n h dX12_isFull_100 rfl 0 rfl ?_
          have hq24 := w_ref hw ht rC_86 (by decide) (k := 14) (by decide) rf_12_14
          refine g_X12_30 h dX12_isFull_101 ht rC_86 hq24.1 ?_
          refine r_aload_n h dX12_isFull_104 rfl 0 rfl ?_
          refine g_X12_286 h dX12_isFull_105 ht rC_86 ?_
          obtain ⟨hi25, hf⟩ := oc_some hf
          refine r_iald h dX12_isFull_108 hq24.2 rC_92 (hs7.1 _ _) (N := 2) (by rw [rN_92]; rfl) (j := (gi s7 86 41).toNat) rfl hi25 ?_
          refine r_bipush h dX12_isFull_109 (by decide) ?_
          refine r_icmp_ne (tgt := 118) h dX12_isFull_111 (by decide) (hs7.1 _ _) (rIc rfl) (fun hc26 => ?_) (fun hc26 => ?_)
          · have hf := ite_f hc26 hf
            refine r_iconst h dX12_isFull_118 ?_
            exact r_ret2 hr dX12_isFull_119 (Or.inl rfl) hf
          · have hf := ite_nf hc26 hf
            refine r_iconst h dX12_isFull_114 ?_
            refine r_goto (tgt := 119) h dX12_isFull_115 (by decide) ?_
            exact r_ret2 hr dX12_isFull_119 (Or.inr rfl) hf
      · have hf := ite_f hc6 hf
        refine r_aload_n h dX12_isFull_70 rfl 0 rfl ?_
        have hq27 := w_ref hw ht rC_86 (by decide) (k := 13) (by decide) rf_12_13
        refine g_X12_27 h dX12_isFull_71 ht rC_86 hq27.1 ?_
        refine r_aload_n h dX12_isFull_74 rfl 0 rfl ?_
        refine g_X12_286 h dX12_isFull_75 ht rC_86 ?_
        obtain ⟨hi28, hf⟩ := oc_some hf
        refine r_iald h dX12_isFull_78 hq27.2 rC_91 (hs5.1 _ _) (N := 2) (by rw [rN_91]; rfl) (j := (gi s5 86 41).toNat) rfl hi28 ?_
        refine r_bipush h dX12_isFull_79 (by decide) ?_
        refine r_icmp_ne (tgt := 88) h dX12_isFull_81 (by decide) (hs5.1 _ _) (rIc rfl) (fun hc29 => ?_) (fun hc29 => ?_)
        · have hf := ite_f hc29 hf
          refine r_iconst h dX12_isFull_88 ?_
          exact r_ret2 hr dX12_isFull_89 (Or.inl rfl) hf
        · have hf := ite_nf hc29 hf
          refine r_iconst h dX12_isFull_84 ?_
          refine r_goto (tgt := 89) h dX12_isFull_85 (by decide) ?_
          exact r_ret2 hr dX12_isFull_89 (Or.inr rfl) hf
    · have hf := ite_f hc4 hf
      refine r_aload_n h dX12_isFull_40 rfl 0 rfl ?_
      have hq30 := w_ref hw ht rC_86 (by decide) (k := 12) (by decide) rf_12_12
      refine g_X12_24 h dX12_isFull_41 ht rC_86 hq30.1 ?_
      refine r_aload_n h dX12_isFull_44 rfl 0 rfl ?_
      refine g_X12_286 h dX12_isFull_45 ht rC_86 ?_
      obtain ⟨hi31, hf⟩ := oc_some hf
      refine r_iald h dX12_isFull_48 hq30.2 rC_90 (hs3.1 _ _) (N := 2) (by rw [rN_90]; rfl) (j := (gi s3 86 41).toNat) rfl hi31 ?_
      refine r_bipush h dX12_isFull_49 (by decide) ?_
      refine r_icmp_ne (tgt := 58) h dX12_isFull_51 (by decide) (hs3.1 _ _) (rIc rfl) (fun hc32 => ?_) (fun hc32 => ?_)
      · have hf := ite_f hc32 hf
        refine r_iconst h dX12_isFull_58 ?_
        exact r_ret2 hr dX12_isFull_59 (Or.inl rfl) hf
      · have hf := ite_nf hc32 hf
        refine r_iconst h dX12_isFull_54 ?_
        refine r_goto (tgt := 59) h dX12_isFull_55 (by decide) ?_
        exact r_ret2 hr dX12_isFull_59 (Or.inr rfl) hf
  · have hf := ite_f hc2 hf
    refine r_aload_n h dX12_isFull_10 rfl 0 rfl ?_
    have hq33 := w_ref hw ht rC_86 (by decide) (k := 11) (by decide) rf_12_11
    refine g_X12_20 h dX12_isFull_11 ht rC_86 hq33.1 ?_
    refine r_aload_n h dX12_isFull_14 rfl 0 rfl ?_
    refine g_X12_286 h dX12_isFull_15 ht rC_86 ?_
    obtain ⟨hi34, hf⟩ := oc_some hf
    refine r_iald h dX12_isFull_18 hq33.2 rC_89 (hs1.1 _ _) (N := 2) (by rw [rN_89]; rfl) (j := (gi s1 86 41).toNat) rfl hi34 ?_
    refine r_bipush h dX12_isFull_19 (by decide) ?_
    refine r_icmp_ne (tgt := 28) h dX12_isFull_21 (by decide) (hs1.1 _ _) (rIc rfl) (fun hc35 => ?_) (fun hc35 => ?_)
    · have hf := ite_f hc35 hf
      refine r_iconst h dX12_isFull_28 ?_
      exact r_ret2 hr dX12_isFull_29 (Or.inl rfl) hf
    · have hf := ite_nf hc35 hf
      refine r_iconst h dX12_isFull_24 ?_
      refine r_goto (tgt := 29) h dX12_isFull_25 (by decide) ?_
      exact r_ret2 hr dX12_isFull_29 (Or.inr rfl) hf
set_option maxRecDepth 20000 in
theorem b_Mo_here_3 {l : Launch} {D : va_G} {cs : Nat → ClassId} {aS aV : Nat} {A : Nat → Prop} {K : KT} {ad : Nat → Nat} {n : Nat} {nl : Nat → Nat → Bool} {out : Int × SS} (h : w_Cl l rm_Mo_here D cs aS aV A cX12_here 5 RX12 "here" K) (hr : w_Rt 1 cX12_here 0 0 (w_Po ad n nl out) K) (hw : w_WH n nl) (ht : 86 < n) {u1 : Nat} (pu1 : u1 < n) (pc1 : rC u1 = 15) {y2 : Int} (ry2 : rI y2) {y3 : Int} (ry3 : rI y3) : ∀ (fu : Nat) (x4 : Int) (s0 : SS), rI x4 → l_Mo_here_3 u1 y2 y3 fu x4 s0 = some out → K ad n nl 0 0 3 [(0, .ref (ad 86)), (1, .ref (ad u1)), (2, .int (vI y2)), (3, .int (vI y3)), (4, .int (vI x4))] [] s0 := by
  intro fu
  induction fu with
  | zero =>
    intro x4 s0 rx4 hf
    rw [l_Mo_here_3] at hf
    cases hf
  | succ fu ih =>
    intro x4 s0 rx4 hf
    rw [l_Mo_here_3] at hf
    refine r_rS h (fun hs0 => ?_)
    refine r_iload h dX12_here_3 4 rfl ?_
    refine r_iload_n h dX12_here_5 rfl 3 rfl ?_
    refine r_icmp_ge (tgt := 40) h dX12_here_6 (by decide) rx4 ry3 (fun hc1 => ?_) (fun hc1 => ?_)
    · have hf := ite_t hc1 hf
      refine r_iconst h dX12_here_40 ?_
      exact r_ret1 hr dX12_here_41 (rIc rfl) hf
    · have hf := ite_f hc1 hf
      refine r_aload_n h dX12_here_9 rfl 0 rfl ?_
      refine g_X12_237 h dX12_here_10 ht rC_86 ?_
      refine r_iconst h dX12_here_13 ?_
      refine r_icmp_ne (tgt := 34) h dX12_here_14 (by decide) (hs0.1 _ _) (rIc rfl) (fun hc2 => ?_) (fun hc2 => ?_)
      · have hf := ite_f hc2 hf
        refine r_iinc h [(4, .int (vI (iw (x4 + 1)))), (0, .ref (ad 86)), (1, .ref (ad u1)), (2, .int (vI y2)), (3, .int (vI y3))] dX12_here_34 4 rfl (by decide) rfl ?_
        refine r_goto (tgt := 3) h dX12_here_37 (by decide) ?_
        refine r_sub h [1, 2, 3, 4, 0] rfl ?_
        exact ih (iw (x4 + 1)) s0 (rI_iw _) hf
      · have hf := ite_nf hc2 hf
        refine r_aload_n h dX12_here_17 rfl 1 rfl ?_
        refine r_iload_n h dX12_here_18 rfl 2 rfl ?_
        refine r_iload h dX12_here_19 4 rfl ?_
        refine r_iadd h dX12_here_21 ?_
        obtain ⟨hi3, hf⟩ := oc_some hf
        refine r_lald h dX12_here_22 pu1 pc1 (rI_iw _) rfl (j := (iw (y2 + x4)).toNat) rfl hi3 ?_
        refine r_aload_n h dX12_here_23 rfl 0 rfl ?_
        refine g_X12_244 h dX12_here_24 ht rC_86 ?_
        refine r_lcmp h dX12_here_27 (hs0.2 _ _) (hs0.2 _ _) ?_
        refine r_if_ne (tgt := 34) h dX12_here_28 (by decide) (rI_ycmp _ _) (fun hc4 => ?_) (fun hc4 => ?_)
        · have hf := ite_f hc4 hf
          refine r_iinc h [(4, .int (vI (iw (x4 + 1)))), (0, .ref (ad 86)), (1, .ref (ad u1)), (2, .int (vI y2)), (3, .int (vI y3))] dX12_here_34 4 rfl (by decide) rfl ?_
          refine r_goto (tgt := 3) h dX12_here_37 (by decide) ?_
          refine r_sub h [1, 2, 3, 4, 0] rfl ?_
          exact ih (iw (x4 + 1)) s0 (rI_iw _) hf
        · have hf := ite_nf hc4 hf
          refine r_iload h dX12_here_31 4 rfl ?_
          exact r_ret1 hr dX12_here_33 rx4 hf
set_option maxRecDepth 20000 in
theorem m_Mo_here {l : Launch} {D : va_G} {cs : Nat → ClassId} {aS aV : Nat} {A : Nat → Prop} {ad : Nat → Nat} {n : Nat} {nl : Nat → Nat → Bool} {out : Int × SS} (hw : w_WH n nl) (ht : 86 < n) {u1 : Nat} (pu1 : u1 < n) (pc1 : rC u1 = 15) {a2 : Int} (ra2 : rI a2) {a3 : Int} (ra3 : rI a3) {s0 : SS} (hs0 : rS s0) (hf : f_Mo_here u1 a2 a3 s0 = some out) : w_MC l D cs aS aV A yX12_here cX12_here 5 1 rm_Mo_here ad n nl [.ref (ad 86), .ref (ad u1), .int (vI a2), .int (vI a3)] s0 (w_Po ad n nl out) := by
  refine w_MC_of (by decide +kernel) (by decide) hs0 (Nat.le_of_ble_eq_true rfl) (fun K h hr => ?_)
  refine r_lv (lv' := [(0, .ref (ad 86)), (1, .ref (ad u1)), (2, .int (vI a2)), (3, .int (vI a3))]) rfl ?_
  unfold f_Mo_here at hf
  refine r_rS h (fun hs0 => ?_)
  refine r_iconst h dX12_here_0 ?_
  refine r_istore h [(4, .int (vI 0)), (0, .ref (ad 86)), (1, .ref (ad u1)), (2, .int (vI a2)), (3, .int (vI a3))] dX12_here_1 (by decide) rfl ?_
  refine r_sub h [1, 2, 3, 4, 0] rfl ?_
  exact b_Mo_here_3 h hr hw ht pu1 pc1 ra2 ra3 FU 0 s0 (rIc rfl) hf
set_option maxRecDepth 20000 in
theorem b_Mo_fresh_37 {l : Launch} {D : va_G} {cs : Nat → ClassId} {aS aV : Nat} {A : Nat → Prop} {K : KT} {ad : Nat → Nat} {n : Nat} {nl : Nat → Nat → Bool} {out : Int × SS} (h : w_Cl l rm_Mo_fresh D cs aS aV A cX12_fresh 4 RX12 "fresh" K) (hr : w_Rt 3 cX12_fresh 0 0 (w_Po ad n nl out) K) (hw : w_WH n nl) (ht : 86 < n) (s0 : SS) (hf : j_Mo_fresh_37 s0 = some out) : K ad n nl 0 0 37 [(0, .ref (ad 86))] [] s0 := by
  unfold j_Mo_fresh_37 at hf
  refine r_rS h (fun hs0 => ?_)
  refine r_aload_n h dX12_fresh_37 rfl 0 rfl ?_
  refine g_X12_244 h dX12_fresh_38 ht rC_86 ?_
  refine r_olJ hf (hs0.2 _ _) (fun x1_ rx1_ hf => ?_)
  refine r_lstore_n h [(2, .long (vJ x1_)), (0, .ref (ad 86))] dX12_fresh_41 rfl (by decide) rfl ?_
  refine r_aload_n h dX12_fresh_42 rfl 1 rfl ?_
  obtain ⟨r2, s2, hq2, hf⟩ := ob_some hf
  refine r_callV2 h [] dX12_fresh_43 (fun hs => m_Mo_isGood hw ht hs hq2) ml_X12_265 cv_Mo_isGood rfl (co := 12) rfl (by decide) ht rC_86 ⟨rfl, rfl⟩ ⟨Nat.le_of_ble_eq_true rfl, Nat.le_of_ble_eq_true rfl⟩ ⟨Nat.le_of_ble_eq_true rfl, Nat.le_of_ble_eq_true rfl⟩ (Nat.le_of_ble_eq_true rfl) rfl (fun hr2 hs2 => ?_)
  refine r_if_eq (tgt := 53) h dX12_fresh_46 (by decide) (rI_b hr2) (fun hc3 => ?_) (fun hc3 => ?_)
  · have hf := ite_t hc3 hf
    refine r_lload_n h dX12_fresh_53 rfl 0 rfl ?_
    exact r_ret3 hr dX12_fresh_54 rx1_ hf
  · have hf := ite_f hc3 hf
    refine r_aload_n h dX12_fresh_49 rfl 1 rfl ?_
    obtain ⟨r4, s4, hq4, hf⟩ := ob_some hf
    refine r_callV0 h [] dX12_fresh_50 (fun hs => m_Mo_goOn hw ht hs hq4) ml_X12_269 cv_Mo_goOn rfl (co := 12) rfl (by decide) ht rC_86 ⟨rfl, rfl⟩ ⟨Nat.le_of_ble_eq_true rfl, Nat.le_of_ble_eq_true rfl⟩ ⟨Nat.le_of_ble_eq_true rfl, Nat.le_of_ble_eq_true rfl⟩ (Nat.le_of_ble_eq_true rfl) rfl (fun hr4 hs4 => ?_)
    refine r_lload_n h dX12_fresh_53 rfl 0 rfl ?_
    exact r_ret3 hr dX12_fresh_54 rx1_ hf
set_option maxRecDepth 20000 in
theorem m_Mo_fresh {l : Launch} {D : va_G} {cs : Nat → ClassId} {aS aV : Nat} {A : Nat → Prop} {ad : Nat → Nat} {n : Nat} {nl : Nat → Nat → Bool} {out : Int × SS} (hw : w_WH n nl) (ht : 86 < n) {a1 : Int} (ra1 : rI a1) {s0 : SS} (hs0 : rS s0) (hf : f_Mo_fresh a1 s0 = some out) : w_MC l D cs aS aV A yX12_fresh cX12_fresh 4 3 rm_Mo_fresh ad n nl [.ref (ad 86), .int (vI a1)] s0 (w_Po ad n nl out) := by
  refine w_MC_of (by decide +kernel) (by decide) hs0 (Nat.le_of_ble_eq_true rfl) (fun K h hr => ?_)
  refine r_lv (lv' := [(0, .ref (ad 86)), (1, .int (vI a1))]) rfl ?_
  unfold f_Mo_fresh at hf
  refine r_rS h (fun hs0 => ?_)
  refine r_aload_n h dX12_fresh_0 rfl 0 rfl ?_
  obtain ⟨r1, s1, hq1, hf⟩ := ob_some hf
  refine r_callV2 h [] dX12_fresh_1 (fun hs => m_Mo_isGood hw ht hs hq1) ml_X12_265 cv_Mo_isGood rfl (co := 12) rfl (by decide) ht rC_86 ⟨rfl, rfl⟩ ⟨Nat.le_of_ble_eq_true rfl, Nat.le_of_ble_eq_true rfl⟩ ⟨Nat.le_of_ble_eq_true rfl, Nat.le_of_ble_eq_true rfl⟩ (Nat.le_of_ble_eq_true rfl) rfl (fun hr1 hs1 => ?_)
  refine r_if_ne (tgt := 9) h dX12_fresh_4 (by decide) (rI_b hr1) (fun hc2 => ?_) (fun hc2 => ?_)
  · have hf := ite_f hc2 hf
    refine r_aload_n h dX12_fresh_9 rfl 0 rfl ?_
    refine g_X12_237 h dX12_fresh_10 ht rC_86 ?_
    refine r_iconst h dX12_fresh_13 ?_
    refine r_icmp_eq (tgt := 24) h dX12_fresh_14 (by decide) (hs1.1 _ _) (rIc rfl) (fun hc3 => ?_) (fun hc3 => ?_)
    · have hf := ite_t hc3 hf
      refine r_iload_n h dX12_fresh_24 rfl 1 rfl ?_
      refine r_if_lt (tgt := 37) h dX12_fresh_25 (by decide) ra1 (fun hc4 => ?_) (fun hc4 => ?_)
      · have hf := ite_t hc4 hf
        refine r_sub h [0] rfl ?_
        exact b_Mo_fresh_37 h hr hw ht s1 hf
      · have hf := ite_f hc4 hf
        refine r_aload_n h dX12_fresh_28 rfl 0 rfl ?_
        refine r_iconst h dX12_fresh_29 ?_
        refine r_aload_n h dX12_fresh_30 rfl 0 rfl ?_
        refine g_X12_230 h dX12_fresh_31 ht rC_86 ?_
        obtain ⟨r5, s5, hq5, hf⟩ := ob_some hf
        refine r_callV0 h [.int (vI 3), .int (vI (gi s1 86 6))] dX12_fresh_34 (fun hs => m_Mo_fails hw ht (rIc rfl) (hs1.1 _ _) hs hq5) ml_X12_261 cv_Mo_fails rfl (co := 12) rfl (by decide) ht rC_86 ⟨rfl, rfl⟩ ⟨Nat.le_of_ble_eq_true rfl, Nat.le_of_ble_eq_true rfl⟩ ⟨Nat.le_of_ble_eq_true rfl, Nat.le_of_ble_eq_true rfl⟩ (Nat.le_of_ble_eq_true rfl) rfl (fun hr5 hs5 => ?_)
        refine r_sub h [0] rfl ?_
        exact b_Mo_fresh_37 h hr hw ht s5 hf
    · have hf := ite_f hc3 hf
      refine r_aload_n h dX12_fresh_17 rfl 0 rfl ?_
      obtain ⟨r6, s6, hq6, hf⟩ := ob_some hf
      refine r_callV0 h [] dX12_fresh_18 (fun hs => m_Mo_misplaced hw ht hs hq6) ml_X12_272 cv_Mo_misplaced rfl (co := 12) rfl (by decide) ht rC_86 ⟨rfl, rfl⟩ ⟨Nat.le_of_ble_eq_true rfl, Nat.le_of_ble_eq_true rfl⟩ ⟨Nat.le_of_ble_eq_true rfl, Nat.le_of_ble_eq_true rfl⟩ (Nat.le_of_ble_eq_true rfl) rfl (fun hr6 hs6 => ?_)
      refine r_goto (tgt := 37) h dX12_fresh_21 (by decide) ?_
      refine r_sub h [0] rfl ?_
      exact b_Mo_fresh_37 h hr hw ht s6 hf
  · have hf := ite_nf hc2 hf
    refine r_lconst (x := 0) h dX12_fresh_7 (by decide) ?_
    exact r_ret3 hr dX12_fresh_8 (rJc rfl) hf
set_option maxRecDepth 20000 in
theorem b_Mo_readPlace_125 {l : Launch} {D : va_G} {cs : Nat → ClassId} {aS aV : Nat} {A : Nat → Prop} {K : KT} {ad : Nat → Nat} {n : Nat} {nl : Nat → Nat → Bool} {out : Int × SS} (h : w_Cl l rm_Mo_readPlace D cs aS aV A cX12_readPlace 2 RX12 "readPlace" K) (hr : w_Rt 0 cX12_readPlace 0 0 (w_Po ad n nl out) K) (hw : w_WH n nl) (ht : 86 < n) (z1 : Int) (z2 : Int) (s0 : SS) (rz1 : rI z1) (rz2 : rI z2) (hf : j_Mo_readPlace_125 z1 z2 s0 = some out) : K ad n nl 0 0 125 [(0, .ref (ad 86))] [.int (vI z2), .int (vI z1), .ref (ad 96)] s0 := by
  unfold j_Mo_readPlace_125 at hf
  have q96_0 := w_ref hw ht rC_86 (by decide) (k := 18) (by decide) rf_12_18
  refine r_rS h (fun hs0 => ?_)
  obtain ⟨hi1, hf⟩ := oc_some hf
  refine r_iast h dX12_readPlace_125 q96_0.2 rC_96 rz1 (N := 16) (by rw [rN_96]; rfl) (j := (z1).toNat) rfl hi1 rz2 ?_
  refine r_os hf (fun s2 hf => ?_)
  refine r_rS h (fun hs2 => ?_)
  refine r_aload_n h dX12_readPlace_126 rfl 0 rfl ?_
  have hq3 := w_ref hw ht rC_86 (by decide) (k := 11) (by decide) rf_12_11
  refine g_X12_20 h dX12_readPlace_127 ht rC_86 hq3.1 ?_
  refine r_aload_n h dX12_readPlace_130 rfl 0 rfl ?_
  refine g_X12_286 h dX12_readPlace_131 ht rC_86 ?_
  refine r_dup2a h dX12_readPlace_134 rfl rfl ?_
  obtain ⟨hi4, hf⟩ := oc_some hf
  refine r_iald h dX12_readPlace_135 hq3.2 rC_89 (hs2.1 _ _) (N := 2) (by rw [rN_89]; rfl) (j := (gi s2 86 41).toNat) rfl hi4 ?_
  refine r_iconst h dX12_readPlace_136 ?_
  refine r_iadd h dX12_readPlace_137 ?_
  obtain ⟨hi5, hf⟩ := oc_some hf
  refine r_iast h dX12_readPlace_138 hq3.2 rC_89 (hs2.1 _ _) (N := 2) (by rw [rN_89]; rfl) (j := (gi s2 86 41).toNat) rfl hi5 (rI_iw _) ?_
  refine r_os hf (fun s6 hf => ?_)
  refine r_rS h (fun hs6 => ?_)
  exact r_ret0 (x := 0) hr dX12_readPlace_139 hf
set_option maxRecDepth 20000 in
theorem b_Mo_readPlace_124 {l : Launch} {D : va_G} {cs : Nat → ClassId} {aS aV : Nat} {A : Nat → Prop} {K : KT} {ad : Nat → Nat} {n : Nat} {nl : Nat → Nat → Bool} {out : Int × SS} (h : w_Cl l rm_Mo_readPlace D cs aS aV A cX12_readPlace 2 RX12 "readPlace" K) (hr : w_Rt 0 cX12_readPlace 0 0 (w_Po ad n nl out) K) (hw : w_WH n nl) (ht : 86 < n) (z1 : Int) (s0 : SS) (rz1 : rI z1) (hf : j_Mo_readPlace_124 z1 s0 = some out) : K ad n nl 0 0 124 [(0, .ref (ad 86))] [.int (vI z1), .ref (ad 96)] s0 := by
  unfold j_Mo_readPlace_124 at hf
  have q96_0 := w_ref hw ht rC_86 (by decide) (k := 18) (by decide) rf_12_18
  refine r_rS h (fun hs0 => ?_)
  refine r_iconst h dX12_readPlace_124 ?_
  exact b_Mo_readPlace_125 h hr hw ht z1 0 s0 rz1 (rIc rfl) hf
set_option maxRecDepth 20000 in
theorem b_Mo_readPlace_88 {l : Launch} {D : va_G} {cs : Nat → ClassId} {aS aV : Nat} {A : Nat → Prop} {K : KT} {ad : Nat → Nat} {n : Nat} {nl : Nat → Nat → Bool} {out : Int × SS} (h : w_Cl l rm_Mo_readPlace D cs aS aV A cX12_readPlace 2 RX12 "readPlace" K) (hr : w_Rt 0 cX12_readPlace 0 0 (w_Po ad n nl out) K) (hw : w_WH n nl) (ht : 86 < n) (x1 : Int) (z1 : Int) (z2 : Int) (s0 : SS) (rx1 : rI x1) (rz1 : rI z1) (rz2 : rI z2) (hf : j_Mo_readPlace_88 x1 z1 z2 s0 = some out) : K ad n nl 0 0 88 [(0, .ref (ad 86)), (1, .int (vI x1))] [.int (vI z2), .int (vI z1), .ref (ad 95)] s0 := by
  unfold j_Mo_readPlace_88 at hf
  have q95_0 := w_ref hw ht rC_86 (by decide) (k := 17) (by decide) rf_12_17
  refine r_rS h (fun hs0 => ?_)
  obtain ⟨hi1, hf⟩ := oc_some hf
  refine r_iast h dX12_readPlace_88 q95_0.2 rC_95 rz1 (N := 16) (by rw [rN_95]; rfl) (j := (z1).toNat) rfl hi1 rz2 ?_
  refine r_os hf (fun s2 hf => ?_)
  refine r_rS h (fun hs2 => ?_)
  refine r_aload_n h dX12_readPlace_89 rfl 0 rfl ?_
  have hq3 := w_ref hw ht rC_86 (by decide) (k := 18) (by decide) rf_12_18
  refine g_X12_42 h dX12_readPlace_90 ht rC_86 hq3.1 ?_
  refine r_iload_n h dX12_readPlace_93 rfl 1 rfl ?_
  refine r_aload_n h dX12_readPlace_94 rfl 0 rfl ?_
  obtain ⟨r4, s4, hq4, hf⟩ := ob_some hf
  refine r_callV2 h [] dX12_readPlace_95 (fun hs => m_Mo_isGood hw ht hs hq4) ml_X12_265 cv_Mo_isGood rfl (co := 12) rfl (by decide) ht rC_86 ⟨rfl, rfl⟩ ⟨Nat.le_of_ble_eq_true rfl, Nat.le_of_ble_eq_true rfl⟩ ⟨Nat.le_of_ble_eq_true rfl, Nat.le_of_ble_eq_true rfl⟩ (Nat.le_of_ble_eq_true rfl) rfl (fun hr4 hs4 => ?_)
  refine r_if_eq (tgt := 124) h dX12_readPlace_98 (by decide) (rI_b hr4) (fun hc5 => ?_) (fun hc5 => ?_)
  · have hf := ite_t hc5 hf
    refine r_sub h [0] rfl ?_
    exact b_Mo_readPlace_124 h hr hw ht x1 s4 rx1 hf
  · have hf := ite_f hc5 hf
    refine r_aload_n h dX12_readPlace_101 rfl 0 rfl ?_
    refine r_ldc2 (x := 1701013615) h dX12_readPlace_102 (gt_in7 126 rfl rfl) rfl ?_
    obtain ⟨r6, s6, hq6, hf⟩ := ob_some hf
    refine r_callV2 h [.long (vJ 1701013615)] dX12_readPlace_105 (fun hs => m_Mo_isWord hw ht (rJc rfl) hs hq6) ml_X12_275 cv_Mo_isWord rfl (co := 12) rfl (by decide) ht rC_86 ⟨rfl, rfl⟩ ⟨Nat.le_of_ble_eq_true rfl, Nat.le_of_ble_eq_true rfl⟩ ⟨Nat.le_of_ble_eq_true rfl, Nat.le_of_ble_eq_true rfl⟩ (Nat.le_of_ble_eq_true rfl) rfl (fun hr6 hs6 => ?_)
    refine r_if_eq (tgt := 124) h dX12_readPlace_108 (by decide) (rI_b hr6) (fun hc7 => ?_) (fun hc7 => ?_)
    · have hf := ite_t hc7 hf
      refine r_sub h [0] rfl ?_
      exact b_Mo_readPlace_124 h hr hw ht x1 s6 rx1 hf
    · have hf := ite_f hc7 hf
      refine r_aload_n h dX12_readPlace_111 rfl 0 rfl ?_
      refine r_ldc2 (x := 1701013615) h dX12_readPlace_112 (gt_in7 126 rfl rfl) rfl ?_
      refine r_iconst h dX12_readPlace_115 ?_
      refine r_bipush h dX12_readPlace_116 (by decide) ?_
      obtain ⟨r8, s8, hq8, hf⟩ := ob_some hf
      refine r_callV1 h [.long (vJ 1701013615), .int (vI 0), .int (vI 9)] dX12_readPlace_118 (fun hs => m_Mo_after hw ht (rJc rfl) (rIc rfl) (rIc rfl) hs hq8) ml_X12_331 cv_Mo_after rfl (co := 12) rfl (by decide) ht rC_86 ⟨rfl, rfl⟩ ⟨Nat.le_of_ble_eq_true rfl, Nat.le_of_ble_eq_true rfl⟩ ⟨Nat.le_of_ble_eq_true rfl, Nat.le_of_ble_eq_true rfl⟩ (Nat.le_of_ble_eq_true rfl) rfl (fun hr8 hs8 => ?_)
      refine r_goto (tgt := 125) h dX12_readPlace_121 (by decide) ?_
      refine r_sub h [0] rfl ?_
      exact b_Mo_readPlace_125 h hr hw ht x1 r8 s8 rx1 hr8 hf
set_option maxRecDepth 20000 in
theorem b_Mo_readPlace_87 {l : Launch} {D : va_G} {cs : Nat → ClassId} {aS aV : Nat} {A : Nat → Prop} {K : KT} {ad : Nat → Nat} {n : Nat} {nl : Nat → Nat → Bool} {out : Int × SS} (h : w_Cl l rm_Mo_readPlace D cs aS aV A cX12_readPlace 2 RX12 "readPlace" K) (hr : w_Rt 0 cX12_readPlace 0 0 (w_Po ad n nl out) K) (hw : w_WH n nl) (ht : 86 < n) (x1 : Int) (z1 : Int) (s0 : SS) (rx1 : rI x1) (rz1 : rI z1) (hf : j_Mo_readPlace_87 x1 z1 s0 = some out) : K ad n nl 0 0 87 [(0, .ref (ad 86)), (1, .int (vI x1))] [.int (vI z1), .ref (ad 95)] s0 := by
  unfold j_Mo_readPlace_87 at hf
  have q95_0 := w_ref hw ht rC_86 (by decide) (k := 17) (by decide) rf_12_17
  refine r_rS h (fun hs0 => ?_)
  refine r_iconst h dX12_readPlace_87 ?_
  exact b_Mo_readPlace_88 h hr hw ht x1 z1 0 s0 rx1 rz1 (rIc rfl) hf
set_option maxRecDepth 20000 in
theorem m_Mo_readPlace {l : Launch} {D : va_G} {cs : Nat → ClassId} {aS aV : Nat} {A : Nat → Prop} {ad : Nat → Nat} {n : Nat} {nl : Nat → Nat → Bool} {out : Int × SS} (hw : w_WH n nl) (ht : 86 < n) {s0 : SS} (hs0 : rS s0) (hf : f_Mo_readPlace s0 = some out) : w_MC l D cs aS aV A yX12_readPlace cX12_readPlace 2 0 rm_Mo_readPlace ad n nl [.ref (ad 86)] s0 (w_Po ad n nl out) := by
  refine w_MC_of (by decide +kernel) (by decide) hs0 (Nat.le_of_ble_eq_true rfl) (fun K h hr => ?_)
  refine r_lv (lv' := [(0, .ref (ad 86))]) rfl ?_
  unfold f_Mo_readPlace at hf
  refine r_rS h (fun hs0 => ?_)
  refine r_bipush h dX12_readPlace_0 (by decide) ?_
  refine r_aload_n h dX12_readPlace_2 rfl 0 rfl ?_
  refine g_X12_286 h dX12_readPlace_3 ht rC_86 ?_
  refine r_imul h dX12_readPlace_6 ?_
  refine r_aload_n h dX12_readPlace_7 rfl 0 rfl ?_
  have hq1 := w_ref hw ht rC_86 (by decide) (k := 11) (by decide) rf_12_11
  refine g_X12_20 h dX12_readPlace_8 ht rC_86 hq1.1 ?_
  refine r_aload_n h dX12_readPlace_11 rfl 0 rfl ?_
  refine g_X12_286 h dX12_readPlace_12 ht rC_86 ?_
  obtain ⟨hi2, hf⟩ := oc_some hf
  refine r_iald h dX12_readPlace_15 hq1.2 rC_89 (hs0.1 _ _) (N := 2) (by rw [rN_89]; rfl) (j := (gi s0 86 41).toNat) rfl hi2 ?_
  refine r_iadd h dX12_readPlace_16 ?_
  refine r_ol hf (rI_iw _) (fun x3_ rx3_ hf => ?_)
  refine r_istore_n h [(1, .int (vI x3_)), (0, .ref (ad 86))] dX12_readPlace_17 rfl (by decide) rfl ?_
  refine r_aload_n h dX12_readPlace_18 rfl 1 rfl ?_
  have hq4 := w_ref hw ht rC_86 (by decide) (k := 32) (by decide) rf_12_32
  refine g_X12_85 h dX12_readPlace_19 ht rC_86 hq4.1 ?_
  refine r_iload_n h dX12_readPlace_22 rfl 0 rfl ?_
  refine r_aload_n h dX12_readPlace_23 rfl 1 rfl ?_
  refine r_aload_n h dX12_readPlace_24 rfl 1 rfl ?_
  refine r_aload_n h dX12_readPlace_25 rfl 1 rfl ?_
  have hq5 := w_ref hw ht rC_86 (by decide) (k := 32) (by decide) rf_12_32
  refine g_X12_85 h dX12_readPlace_26 ht rC_86 hq5.1 ?_
  refine r_bipush h dX12_readPlace_29 (by decide) ?_
  refine r_aload_n h dX12_readPlace_31 rfl 1 rfl ?_
  refine g_X12_286 h dX12_readPlace_32 ht rC_86 ?_
  refine r_imul h dX12_readPlace_35 ?_
  refine r_aload_n h dX12_readPlace_36 rfl 1 rfl ?_
  have hq6 := w_ref hw ht rC_86 (by decide) (k := 11) (by decide) rf_12_11
  refine g_X12_20 h dX12_readPlace_37 ht rC_86 hq6.1 ?_
  refine r_aload_n h dX12_readPlace_40 rfl 1 rfl ?_
  refine g_X12_286 h dX12_readPlace_41 ht rC_86 ?_
  obtain ⟨hi7, hf⟩ := oc_some hf
  refine r_iald h dX12_readPlace_44 hq6.2 rC_89 (hs0.1 _ _) (N := 2) (by rw [rN_89]; rfl) (j := (gi s0 86 41).toNat) rfl hi7 ?_
  obtain ⟨r8, s8, hq8, hf⟩ := ob_some hf
  refine r_callV1 h [.ref (ad 110), .int (vI (iw (8 * (gi s0 86 41)))), .int (vI (gi s0 89 ((gi s0 86 41).toNat)))] dX12_readPlace_45 (fun hs => m_Mo_here hw ht hq5.2 rC_110 (rI_iw _) (hs0.1 _ _) hs hq8) ml_X12_323 cv_Mo_here rfl (co := 12) rfl (by decide) ht rC_86 ⟨rfl, rfl⟩ ⟨Nat.le_of_ble_eq_true rfl, Nat.le_of_ble_eq_true rfl⟩ ⟨Nat.le_of_ble_eq_true rfl, Nat.le_of_ble_eq_true rfl⟩ (Nat.le_of_ble_eq_true rfl) rfl (fun hr8 hs8 => ?_)
  obtain ⟨r9, s9, hq9, hf⟩ := ob_some hf
  refine r_callV3 h [.int (vI r8)] dX12_readPlace_48 (fun hs => m_Mo_fresh hw ht hr8 hs hq9) ml_X12_327 cv_Mo_fresh rfl (co := 12) rfl (by decide) ht rC_86 ⟨rfl, rfl⟩ ⟨Nat.le_of_ble_eq_true rfl, Nat.le_of_ble_eq_true rfl⟩ ⟨Nat.le_of_ble_eq_true rfl, Nat.le_of_ble_eq_true rfl⟩ (Nat.le_of_ble_eq_true rfl) rfl (fun hr9 hs9 => ?_)
  obtain ⟨hi10, hf⟩ := oc_some hf
  refine r_last h dX12_readPlace_51 hq4.2 rC_110 rx3_ (N := 16) (by rw [rN_110]; rfl) (j := (x3_).toNat) rfl hi10 hr9 ?_
  refine r_os hf (fun s11 hf => ?_)
  refine r_rS h (fun hs11 => ?_)
  refine r_aload_n h dX12_readPlace_52 rfl 1 rfl ?_
  have hq12 := w_ref hw ht rC_86 (by decide) (k := 17) (by decide) rf_12_17
  refine g_X12_39 h dX12_readPlace_53 ht rC_86 hq12.1 ?_
  refine r_iload_n h dX12_readPlace_56 rfl 0 rfl ?_
  refine r_aload_n h dX12_readPlace_57 rfl 1 rfl ?_
  obtain ⟨r13, s13, hq13, hf⟩ := ob_some hf
  refine r_callV2 h [] dX12_readPlace_58 (fun hs => m_Mo_isGood hw ht hs hq13) ml_X12_265 cv_Mo_isGood rfl (co := 12) rfl (by decide) ht rC_86 ⟨rfl, rfl⟩ ⟨Nat.le_of_ble_eq_true rfl, Nat.le_of_ble_eq_true rfl⟩ ⟨Nat.le_of_ble_eq_true rfl, Nat.le_of_ble_eq_true rfl⟩ (Nat.le_of_ble_eq_true rfl) rfl (fun hr13 hs13 => ?_)
  refine r_if_eq (tgt := 87) h dX12_readPlace_61 (by decide) (rI_b hr13) (fun hc14 => ?_) (fun hc14 => ?_)
  · have hf := ite_t hc14 hf
    refine r_sub h [1, 0] rfl ?_
    exact b_Mo_readPlace_87 h hr hw ht x3_ x3_ s13 rx3_ rx3_ hf
  · have hf := ite_f hc14 hf
    refine r_aload_n h dX12_readPlace_64 rfl 1 rfl ?_
    refine r_ldc2 (x := 1667329133) h dX12_readPlace_65 (gt_in7 125 rfl rfl) rfl ?_
    obtain ⟨r15, s15, hq15, hf⟩ := ob_some hf
    refine r_callV2 h [.long (vJ 1667329133)] dX12_readPlace_68 (fun hs => m_Mo_isWord hw ht (rJc rfl) hs hq15) ml_X12_275 cv_Mo_isWord rfl (co := 12) rfl (by decide) ht rC_86 ⟨rfl, rfl⟩ ⟨Nat.le_of_ble_eq_true rfl, Nat.le_of_ble_eq_true rfl⟩ ⟨Nat.le_of_ble_eq_true rfl, Nat.le_of_ble_eq_true rfl⟩ (Nat.le_of_ble_eq_true rfl) rfl (fun hr15 hs15 => ?_)
    refine r_if_eq (tgt := 87) h dX12_readPlace_71 (by decide) (rI_b hr15) (fun hc16 => ?_) (fun hc16 => ?_)
    · have hf := ite_t hc16 hf
      refine r_sub h [1, 0] rfl ?_
      exact b_Mo_readPlace_87 h hr hw ht x3_ x3_ s15 rx3_ rx3_ hf
    · have hf := ite_f hc16 hf
      refine r_aload_n h dX12_readPlace_74 rfl 1 rfl ?_
      refine r_ldc2 (x := 1667329133) h dX12_readPlace_75 (gt_in7 125 rfl rfl) rfl ?_
      refine r_iconst h dX12_readPlace_78 ?_
      refine r_bipush h dX12_readPlace_79 (by decide) ?_
      obtain ⟨r17, s17, hq17, hf⟩ := ob_some hf
      refine r_callV1 h [.long (vJ 1667329133), .int (vI 0), .int (vI 9)] dX12_readPlace_81 (fun hs => m_Mo_after hw ht (rJc rfl) (rIc rfl) (rIc rfl) hs hq17) ml_X12_331 cv_Mo_after rfl (co := 12) rfl (by decide) ht rC_86 ⟨rfl, rfl⟩ ⟨Nat.le_of_ble_eq_true rfl, Nat.le_of_ble_eq_true rfl⟩ ⟨Nat.le_of_ble_eq_true rfl, Nat.le_of_ble_eq_true rfl⟩ (Nat.le_of_ble_eq_true rfl) rfl (fun hr17 hs17 => ?_)
      refine r_goto (tgt := 88) h dX12_readPlace_84 (by decide) ?_
      refine r_sub h [1, 0] rfl ?_
      exact b_Mo_readPlace_88 h hr hw ht x3_ x3_ r17 s17 rx3_ rx3_ hr17 hf
set_option maxRecDepth 20000 in
theorem b_Mo_known_62 {l : Launch} {D : va_G} {cs : Nat → ClassId} {aS aV : Nat} {A : Nat → Prop} {K : KT} {ad : Nat → Nat} {n : Nat} {nl : Nat → Nat → Bool} {out : Int × SS} (h : w_Cl l rm_Mo_known D cs aS aV A cX12_known 2 RX12 "known" K) (hr : w_Rt 1 cX12_known 0 0 (w_Po ad n nl out) K) (hw : w_WH n nl) (ht : 86 < n) (x1 : Int) (s0 : SS) (rx1 : rI x1) (hf : j_Mo_known_62 x1 s0 = some out) : K ad n nl 0 0 62 [(1, .int (vI x1))] [] s0 := by
  unfold j_Mo_known_62 at hf
  refine r_rS h (fun hs0 => ?_)
  refine r_iload_n h dX12_known_62 rfl 0 rfl ?_
  refine r_if_ge (tgt := 70) h dX12_known_63 (by decide) rx1 (fun hc1 => ?_) (fun hc1 => ?_)
  · have hf := ite_t hc1 hf
    refine r_iload_n h dX12_known_70 rfl 0 rfl ?_
    exact r_ret1 hr dX12_known_71 rx1 hf
  · have hf := ite_f hc1 hf
    refine r_iconst h dX12_known_66 ?_
    refine r_goto (tgt := 71) h dX12_known_67 (by decide) ?_
    exact r_ret1 hr dX12_known_71 (rIc rfl) hf
set_option maxRecDepth 20000 in
theorem m_Mo_known {l : Launch} {D : va_G} {cs : Nat → ClassId} {aS aV : Nat} {A : Nat → Prop} {ad : Nat → Nat} {n : Nat} {nl : Nat → Nat → Bool} {out : Int × SS} (hw : w_WH n nl) (ht : 86 < n) {s0 : SS} (hs0 : rS s0) (hf : f_Mo_known s0 = some out) : w_MC l D cs aS aV A yX12_known cX12_known 2 1 rm_Mo_known ad n nl [.ref (ad 86)] s0 (w_Po ad n nl out) := by
  refine w_MC_of (by decide +kernel) (by decide) hs0 (Nat.le_of_ble_eq_true rfl) (fun K h hr => ?_)
  refine r_lv (lv' := [(0, .ref (ad 86))]) rfl ?_
  unfold f_Mo_known at hf
  refine r_rS h (fun hs0 => ?_)
  refine r_aload_n h dX12_known_0 rfl 0 rfl ?_
  obtain ⟨r1, s1, hq1, hf⟩ := ob_some hf
  refine r_callV2 h [] dX12_known_1 (fun hs => m_Mo_isGood hw ht hs hq1) ml_X12_265 cv_Mo_isGood rfl (co := 12) rfl (by decide) ht rC_86 ⟨rfl, rfl⟩ ⟨Nat.le_of_ble_eq_true rfl, Nat.le_of_ble_eq_true rfl⟩ ⟨Nat.le_of_ble_eq_true rfl, Nat.le_of_ble_eq_true rfl⟩ (Nat.le_of_ble_eq_true rfl) rfl (fun hr1 hs1 => ?_)
  refine r_if_ne (tgt := 9) h dX12_known_4 (by decide) (rI_b hr1) (fun hc2 => ?_) (fun hc2 => ?_)
  · have hf := ite_f hc2 hf
    refine r_aload_n h dX12_known_9 rfl 0 rfl ?_
    refine r_aload_n h dX12_known_10 rfl 0 rfl ?_
    have hq3 := w_ref hw ht rC_86 (by decide) (k := 32) (by decide) rf_12_32
    refine g_X12_85 h dX12_known_11 ht rC_86 hq3.1 ?_
    refine r_bipush h dX12_known_14 (by decide) ?_
    refine r_aload_n h dX12_known_16 rfl 0 rfl ?_
    refine g_X12_286 h dX12_known_17 ht rC_86 ?_
    refine r_imul h dX12_known_20 ?_
    refine r_aload_n h dX12_known_21 rfl 0 rfl ?_
    have hq4 := w_ref hw ht rC_86 (by decide) (k := 11) (by decide) rf_12_11
    refine g_X12_20 h dX12_known_22 ht rC_86 hq4.1 ?_
    refine r_aload_n h dX12_known_25 rfl 0 rfl ?_
    refine g_X12_286 h dX12_known_26 ht rC_86 ?_
    obtain ⟨hi5, hf⟩ := oc_some hf
    refine r_iald h dX12_known_29 hq4.2 rC_89 (hs1.1 _ _) (N := 2) (by rw [rN_89]; rfl) (j := (gi s1 86 41).toNat) rfl hi5 ?_
    obtain ⟨r6, s6, hq6, hf⟩ := ob_some hf
    refine r_callV1 h [.ref (ad 110), .int (vI (iw (8 * (gi s1 86 41)))), .int (vI (gi s1 89 ((gi s1 86 41).toNat)))] dX12_known_30 (fun hs => m_Mo_here hw ht hq3.2 rC_110 (rI_iw _) (hs1.1 _ _) hs hq6) ml_X12_323 cv_Mo_here rfl (co := 12) rfl (by decide) ht rC_86 ⟨rfl, rfl⟩ ⟨Nat.le_of_ble_eq_true rfl, Nat.le_of_ble_eq_true rfl⟩ ⟨Nat.le_of_ble_eq_true rfl, Nat.le_of_ble_eq_true rfl⟩ (Nat.le_of_ble_eq_true rfl) rfl (fun hr6 hs6 => ?_)
    refine r_istore_n h [(1, .int (vI r6)), (0, .ref (ad 86))] dX12_known_33 rfl (by decide) rfl ?_
    refine r_aload_n h dX12_known_34 rfl 1 rfl ?_
    refine g_X12_237 h dX12_known_35 ht rC_86 ?_
    refine r_iconst h dX12_known_38 ?_
    refine r_icmp_eq (tgt := 49) h dX12_known_39 (by decide) (hs6.1 _ _) (rIc rfl) (fun hc7 => ?_) (fun hc7 => ?_)
    · have hf := ite_t hc7 hf
      refine r_iload_n h dX12_known_49 rfl 0 rfl ?_
      refine r_if_ge (tgt := 62) h dX12_known_50 (by decide) hr6 (fun hc8 => ?_) (fun hc8 => ?_)
      · have hf := ite_t hc8 hf
        refine r_sub h [0] rfl ?_
        exact b_Mo_known_62 h hr hw ht r6 s6 hr6 hf
      · have hf := ite_f hc8 hf
        refine r_aload_n h dX12_known_53 rfl 1 rfl ?_
        refine r_iconst h dX12_known_54 ?_
        refine r_aload_n h dX12_known_55 rfl 1 rfl ?_
        refine g_X12_230 h dX12_known_56 ht rC_86 ?_
        obtain ⟨r9, s9, hq9, hf⟩ := ob_some hf
        refine r_callV0 h [.int (vI 5), .int (vI (gi s6 86 6))] dX12_known_59 (fun hs => m_Mo_fails hw ht (rIc rfl) (hs6.1 _ _) hs hq9) ml_X12_261 cv_Mo_fails rfl (co := 12) rfl (by decide) ht rC_86 ⟨rfl, rfl⟩ ⟨Nat.le_of_ble_eq_true rfl, Nat.le_of_ble_eq_true rfl⟩ ⟨Nat.le_of_ble_eq_true rfl, Nat.le_of_ble_eq_true rfl⟩ (Nat.le_of_ble_eq_true rfl) rfl (fun hr9 hs9 => ?_)
        refine r_sub h [0] rfl ?_
        exact b_Mo_known_62 h hr hw ht r6 s9 hr6 hf
    · have hf := ite_f hc7 hf
      refine r_aload_n h dX12_known_42 rfl 1 rfl ?_
      obtain ⟨r10, s10, hq10, hf⟩ := ob_some hf
      refine r_callV0 h [] dX12_known_43 (fun hs => m_Mo_misplaced hw ht hs hq10) ml_X12_272 cv_Mo_misplaced rfl (co := 12) rfl (by decide) ht rC_86 ⟨rfl, rfl⟩ ⟨Nat.le_of_ble_eq_true rfl, Nat.le_of_ble_eq_true rfl⟩ ⟨Nat.le_of_ble_eq_true rfl, Nat.le_of_ble_eq_true rfl⟩ (Nat.le_of_ble_eq_true rfl) rfl (fun hr10 hs10 => ?_)
      refine r_goto (tgt := 62) h dX12_known_46 (by decide) ?_
      refine r_sub h [0] rfl ?_
      exact b_Mo_known_62 h hr hw ht r6 s10 hr6 hf
  · have hf := ite_nf hc2 hf
    refine r_iconst h dX12_known_7 ?_
    exact r_ret1 hr dX12_known_8 (rIc rfl) hf
set_option maxRecDepth 20000 in
theorem b_Mo_signedNumber_66 {l : Launch} {D : va_G} {cs : Nat → ClassId} {aS aV : Nat} {A : Nat → Prop} {K : KT} {ad : Nat → Nat} {n : Nat} {nl : Nat → Nat → Bool} {out : Int × SS} (h : w_Cl l rm_Mo_signedNumber D cs aS aV A cX12_signedNumber 4 RX12 "signedNumber" K) (hr : w_Rt 1 cX12_signedNumber 0 0 (w_Po ad n nl out) K) (hw : w_WH n nl) (ht : 86 < n) (z0 : Int) (s0 : SS) (rz0 : rI z0) (hf : j_Mo_signedNumber_66 z0 s0 = some out) : K ad n nl 0 0 66 [(0, .ref (ad 86))] [.int (vI z0)] s0 := by
  unfold j_Mo_signedNumber_66 at hf
  refine r_rS h (fun hs0 => ?_)
  refine r_istore_n h [(3, .int (vI z0)), (0, .ref (ad 86))] dX12_signedNumber_66 rfl (by decide) rfl ?_
  refine r_aload_n h dX12_signedNumber_67 rfl 1 rfl ?_
  obtain ⟨r1, s1, hq1, hf⟩ := ob_some hf
  refine r_callV2 h [] dX12_signedNumber_68 (fun hs => m_Mo_isGood hw ht hs hq1) ml_X12_265 cv_Mo_isGood rfl (co := 12) rfl (by decide) ht rC_86 ⟨rfl, rfl⟩ ⟨Nat.le_of_ble_eq_true rfl, Nat.le_of_ble_eq_true rfl⟩ ⟨Nat.le_of_ble_eq_true rfl, Nat.le_of_ble_eq_true rfl⟩ (Nat.le_of_ble_eq_true rfl) rfl (fun hr1 hs1 => ?_)
  refine r_if_eq (tgt := 78) h dX12_signedNumber_71 (by decide) (rI_b hr1) (fun hc2 => ?_) (fun hc2 => ?_)
  · have hf := ite_t hc2 hf
    refine r_iload_n h dX12_signedNumber_78 rfl 0 rfl ?_
    exact r_ret1 hr dX12_signedNumber_79 rz0 hf
  · have hf := ite_f hc2 hf
    refine r_aload_n h dX12_signedNumber_74 rfl 1 rfl ?_
    obtain ⟨r3, s3, hq3, hf⟩ := ob_some hf
    refine r_callV0 h [] dX12_signedNumber_75 (fun hs => m_Mo_goOn hw ht hs hq3) ml_X12_269 cv_Mo_goOn rfl (co := 12) rfl (by decide) ht rC_86 ⟨rfl, rfl⟩ ⟨Nat.le_of_ble_eq_true rfl, Nat.le_of_ble_eq_true rfl⟩ ⟨Nat.le_of_ble_eq_true rfl, Nat.le_of_ble_eq_true rfl⟩ (Nat.le_of_ble_eq_true rfl) rfl (fun hr3 hs3 => ?_)
    refine r_iload_n h dX12_signedNumber_78 rfl 0 rfl ?_
    exact r_ret1 hr dX12_signedNumber_79 rz0 hf
set_option maxRecDepth 20000 in
theorem b_Mo_signedNumber_50 {l : Launch} {D : va_G} {cs : Nat → ClassId} {aS aV : Nat} {A : Nat → Prop} {K : KT} {ad : Nat → Nat} {n : Nat} {nl : Nat → Nat → Bool} {out : Int × SS} (h : w_Cl l rm_Mo_signedNumber D cs aS aV A cX12_signedNumber 4 RX12 "signedNumber" K) (hr : w_Rt 1 cX12_signedNumber 0 0 (w_Po ad n nl out) K) (hw : w_WH n nl) (ht : 86 < n) (x2 : Int) (s0 : SS) (rx2 : rI x2) (hf : j_Mo_signedNumber_50 x2 s0 = some out) : K ad n nl 0 0 50 [(0, .ref (ad 86)), (2, .int (vI x2))] [] s0 := by
  unfold j_Mo_signedNumber_50 at hf
  refine r_rS h (fun hs0 => ?_)
  refine r_iload_n h dX12_signedNumber_50 rfl 1 rfl ?_
  refine r_if_eq (tgt := 62) h dX12_signedNumber_51 (by decide) rx2 (fun hc1 => ?_) (fun hc1 => ?_)
  · have hf := ite_t hc1 hf
    refine r_aload_n h dX12_signedNumber_62 rfl 0 rfl ?_
    refine g_X12_255 h dX12_signedNumber_63 ht rC_86 ?_
    refine r_sub h [0] rfl ?_
    exact b_Mo_signedNumber_66 h hr hw ht (gi s0 86 9) s0 (hs0.1 _ _) hf
  · have hf := ite_f hc1 hf
    refine r_aload_n h dX12_signedNumber_54 rfl 0 rfl ?_
    refine g_X12_255 h dX12_signedNumber_55 ht rC_86 ?_
    refine r_ineg h dX12_signedNumber_58 ?_
    refine r_goto (tgt := 66) h dX12_signedNumber_59 (by decide) ?_
    refine r_sub h [0] rfl ?_
    exact b_Mo_signedNumber_66 h hr hw ht (iw (-(gi s0 86 9))) s0 (rI_iw _) hf
set_option maxRecDepth 20000 in
theorem b_Mo_signedNumber_20 {l : Launch} {D : va_G} {cs : Nat → ClassId} {aS aV : Nat} {A : Nat → Prop} {K : KT} {ad : Nat → Nat} {n : Nat} {nl : Nat → Nat → Bool} {out : Int × SS} (h : w_Cl l rm_Mo_signedNumber D cs aS aV A cX12_signedNumber 4 RX12 "signedNumber" K) (hr : w_Rt 1 cX12_signedNumber 0 0 (w_Po ad n nl out) K) (hw : w_WH n nl) (ht : 86 < n) (x1 : Int) (x2 : Int) (s0 : SS) (rx1 : rI x1) (rx2 : rI x2) (hf : j_Mo_signedNumber_20 x1 x2 s0 = some out) : K ad n nl 0 0 20 [(0, .ref (ad 86)), (1, .int (vI x1)), (2, .int (vI x2))] [] s0 := by
  unfold j_Mo_signedNumber_20 at hf
  refine r_rS h (fun hs0 => ?_)
  refine r_aload_n h dX12_signedNumber_20 rfl 0 rfl ?_
  refine g_X12_237 h dX12_signedNumber_21 ht rC_86 ?_
  refine r_iconst h dX12_signedNumber_24 ?_
  refine r_icmp_eq (tgt := 35) h dX12_signedNumber_25 (by decide) (hs0.1 _ _) (rIc rfl) (fun hc1 => ?_) (fun hc1 => ?_)
  · have hf := ite_t hc1 hf
    refine r_aload_n h dX12_signedNumber_35 rfl 0 rfl ?_
    refine g_X12_255 h dX12_signedNumber_36 ht rC_86 ?_
    refine r_bipush h dX12_signedNumber_39 (by decide) ?_
    refine r_icmp_le (tgt := 50) h dX12_signedNumber_41 (by decide) (hs0.1 _ _) (rIc rfl) (fun hc2 => ?_) (fun hc2 => ?_)
    · have hf := ite_t hc2 hf
      refine r_sub h [0, 2] rfl ?_
      exact b_Mo_signedNumber_50 h hr hw ht x2 s0 rx2 hf
    · have hf := ite_f hc2 hf
      refine r_aload_n h dX12_signedNumber_44 rfl 0 rfl ?_
      refine r_iconst h dX12_signedNumber_45 ?_
      refine r_iload_n h dX12_signedNumber_46 rfl 1 rfl ?_
      obtain ⟨r3, s3, hq3, hf⟩ := ob_some hf
      refine r_callV0 h [.int (vI 4), .int (vI x1)] dX12_signedNumber_47 (fun hs => m_Mo_fails hw ht (rIc rfl) rx1 hs hq3) ml_X12_261 cv_Mo_fails rfl (co := 12) rfl (by decide) ht rC_86 ⟨rfl, rfl⟩ ⟨Nat.le_of_ble_eq_true rfl, Nat.le_of_ble_eq_true rfl⟩ ⟨Nat.le_of_ble_eq_true rfl, Nat.le_of_ble_eq_true rfl⟩ (Nat.le_of_ble_eq_true rfl) rfl (fun hr3 hs3 => ?_)
      refine r_sub h [0, 2] rfl ?_
      exact b_Mo_signedNumber_50 h hr hw ht x2 s3 rx2 hf
  · have hf := ite_f hc1 hf
    refine r_aload_n h dX12_signedNumber_28 rfl 0 rfl ?_
    obtain ⟨r4, s4, hq4, hf⟩ := ob_some hf
    refine r_callV0 h [] dX12_signedNumber_29 (fun hs => m_Mo_misplaced hw ht hs hq4) ml_X12_272 cv_Mo_misplaced rfl (co := 12) rfl (by decide) ht rC_86 ⟨rfl, rfl⟩ ⟨Nat.le_of_ble_eq_true rfl, Nat.le_of_ble_eq_true rfl⟩ ⟨Nat.le_of_ble_eq_true rfl, Nat.le_of_ble_eq_true rfl⟩ (Nat.le_of_ble_eq_true rfl) rfl (fun hr4 hs4 => ?_)
    refine r_goto (tgt := 50) h dX12_signedNumber_32 (by decide) ?_
    refine r_sub h [0, 2] rfl ?_
    exact b_Mo_signedNumber_50 h hr hw ht x2 s4 rx2 hf
set_option maxRecDepth 20000 in
theorem m_Mo_signedNumber {l : Launch} {D : va_G} {cs : Nat → ClassId} {aS aV : Nat} {A : Nat → Prop} {ad : Nat → Nat} {n : Nat} {nl : Nat → Nat → Bool} {out : Int × SS} (hw : w_WH n nl) (ht : 86 < n) {s0 : SS} (hs0 : rS s0) (hf : f_Mo_signedNumber s0 = some out) : w_MC l D cs aS aV A yX12_signedNumber cX12_signedNumber 4 1 rm_Mo_signedNumber ad n nl [.ref (ad 86)] s0 (w_Po ad n nl out) := by
  refine w_MC_of (by decide +kernel) (by decide) hs0 (Nat.le_of_ble_eq_true rfl) (fun K h hr => ?_)
  refine r_lv (lv' := [(0, .ref (ad 86))]) rfl ?_
  unfold f_Mo_signedNumber at hf
  refine r_rS h (fun hs0 => ?_)
  refine r_aload_n h dX12_signedNumber_0 rfl 0 rfl ?_
  refine g_X12_230 h dX12_signedNumber_1 ht rC_86 ?_
  refine r_ol hf (hs0.1 _ _) (fun x1_ rx1_ hf => ?_)
  refine r_istore_n h [(1, .int (vI x1_)), (0, .ref (ad 86))] dX12_signedNumber_4 rfl (by decide) rfl ?_
  refine r_aload_n h dX12_signedNumber_5 rfl 1 rfl ?_
  refine r_bipush h dX12_signedNumber_6 (by decide) ?_
  obtain ⟨r2, s2, hq2, hf⟩ := ob_some hf
  refine r_callV2 h [.int (vI 45)] dX12_signedNumber_8 (fun hs => m_Mo_isSignHere hw ht (rIc rfl) hs hq2) ml_X12_320 cv_Mo_isSignHere rfl (co := 12) rfl (by decide) ht rC_86 ⟨rfl, rfl⟩ ⟨Nat.le_of_ble_eq_true rfl, Nat.le_of_ble_eq_true rfl⟩ ⟨Nat.le_of_ble_eq_true rfl, Nat.le_of_ble_eq_true rfl⟩ (Nat.le_of_ble_eq_true rfl) rfl (fun hr2 hs2 => ?_)
  refine r_istore_n h [(2, .int (vI r2)), (1, .int (vI x1_)), (0, .ref (ad 86))] dX12_signedNumber_11 rfl (by decide) rfl ?_
  refine r_iload_n h dX12_signedNumber_12 rfl 0 rfl ?_
  refine r_if_eq (tgt := 20) h dX12_signedNumber_13 (by decide) (rI_b hr2) (fun hc3 => ?_) (fun hc3 => ?_)
  · have hf := ite_t hc3 hf
    refine r_sub h [2, 1, 0] rfl ?_
    exact b_Mo_signedNumber_20 h hr hw ht x1_ r2 s2 rx1_ (rI_b hr2) hf
  · have hf := ite_f hc3 hf
    refine r_aload_n h dX12_signedNumber_16 rfl 2 rfl ?_
    obtain ⟨r4, s4, hq4, hf⟩ := ob_some hf
    refine r_callV0 h [] dX12_signedNumber_17 (fun hs => m_Mo_goOn hw ht hs hq4) ml_X12_269 cv_Mo_goOn rfl (co := 12) rfl (by decide) ht rC_86 ⟨rfl, rfl⟩ ⟨Nat.le_of_ble_eq_true rfl, Nat.le_of_ble_eq_true rfl⟩ ⟨Nat.le_of_ble_eq_true rfl, Nat.le_of_ble_eq_true rfl⟩ (Nat.le_of_ble_eq_true rfl) rfl (fun hr4 hs4 => ?_)
    refine r_sub h [2, 1, 0] rfl ?_
    exact b_Mo_signedNumber_20 h hr hw ht x1_ r2 s4 rx1_ (rI_b hr2) hf
set_option maxRecDepth 20000 in
theorem b_Mo_readWay_153 {l : Launch} {D : va_G} {cs : Nat → ClassId} {aS aV : Nat} {A : Nat → Prop} {K : KT} {ad : Nat → Nat} {n : Nat} {nl : Nat → Nat → Bool} {out : Int × SS} (h : w_Cl l rm_Mo_readWay D cs aS aV A cX12_readWay 2 RX12 "readWay" K) (hr : w_Rt 0 cX12_readWay 0 0 (w_Po ad n nl out) K) (hw : w_WH n nl) (ht : 86 < n) (s0 : SS) (hf : j_Mo_readWay_153 s0 = some out) : K ad n nl 0 0 153 [(0, .ref (ad 86))] [] s0 := by
  unfold j_Mo_readWay_153 at hf
  refine r_rS h (fun hs0 => ?_)
  refine r_aload_n h dX12_readWay_153 rfl 0 rfl ?_
  have hq1 := w_ref hw ht rC_86 (by decide) (k := 12) (by decide) rf_12_12
  refine g_X12_24 h dX12_readWay_154 ht rC_86 hq1.1 ?_
  refine r_aload_n h dX12_readWay_157 rfl 0 rfl ?_
  refine g_X12_286 h dX12_readWay_158 ht rC_86 ?_
  refine r_dup2a h dX12_readWay_161 rfl rfl ?_
  obtain ⟨hi2, hf⟩ := oc_some hf
  refine r_iald h dX12_readWay_162 hq1.2 rC_90 (hs0.1 _ _) (N := 2) (by rw [rN_90]; rfl) (j := (gi s0 86 41).toNat) rfl hi2 ?_
  refine r_iconst h dX12_readWay_163 ?_
  refine r_iadd h dX12_readWay_164 ?_
  obtain ⟨hi3, hf⟩ := oc_some hf
  refine r_iast h dX12_readWay_165 hq1.2 rC_90 (hs0.1 _ _) (N := 2) (by rw [rN_90]; rfl) (j := (gi s0 86 41).toNat) rfl hi3 (rI_iw _) ?_
  refine r_os hf (fun s4 hf => ?_)
  refine r_rS h (fun hs4 => ?_)
  exact r_ret0 (x := 0) hr dX12_readWay_166 hf
set_option maxRecDepth 20000 in
theorem b_Mo_readWay_102 {l : Launch} {D : va_G} {cs : Nat → ClassId} {aS aV : Nat} {A : Nat → Prop} {K : KT} {ad : Nat → Nat} {n : Nat} {nl : Nat → Nat → Bool} {out : Int × SS} (h : w_Cl l rm_Mo_readWay D cs aS aV A cX12_readWay 2 RX12 "readWay" K) (hr : w_Rt 0 cX12_readWay 0 0 (w_Po ad n nl out) K) (hw : w_WH n nl) (ht : 86 < n) (x1 : Int) (s0 : SS) (rx1 : rI x1) (hf : j_Mo_readWay_102 x1 s0 = some out) : K ad n nl 0 0 102 [(0, .ref (ad 86)), (1, .int (vI x1))] [] s0 := by
  unfold j_Mo_readWay_102 at hf
  refine r_rS h (fun hs0 => ?_)
  refine r_aload_n h dX12_readWay_102 rfl 0 rfl ?_
  have hq1 := w_ref hw ht rC_86 (by decide) (k := 21) (by decide) rf_12_21
  refine g_X12_51 h dX12_readWay_103 ht rC_86 hq1.1 ?_
  refine r_iload_n h dX12_readWay_106 rfl 1 rfl ?_
  refine r_aload_n h dX12_readWay_107 rfl 0 rfl ?_
  refine r_iconst h dX12_readWay_108 ?_
  refine r_bipush h dX12_readWay_109 (by decide) ?_
  obtain ⟨r2, s2, hq2, hf⟩ := ob_some hf
  refine r_callV1 h [.int (vI 1), .int (vI 40)] dX12_readWay_111 (fun hs => m_Mo_numeral hw ht (rIc rfl) (rIc rfl) hs hq2) ml_X12_282 cv_Mo_numeral rfl (co := 12) rfl (by decide) ht rC_86 ⟨rfl, rfl⟩ ⟨Nat.le_of_ble_eq_true rfl, Nat.le_of_ble_eq_true rfl⟩ ⟨Nat.le_of_ble_eq_true rfl, Nat.le_of_ble_eq_true rfl⟩ (Nat.le_of_ble_eq_true rfl) rfl (fun hr2 hs2 => ?_)
  obtain ⟨hi3, hf⟩ := oc_some hf
  refine r_iast h dX12_readWay_114 hq1.2 rC_99 rx1 (N := 28) (by rw [rN_99]; rfl) (j := (x1).toNat) rfl hi3 hr2 ?_
  refine r_os hf (fun s4 hf => ?_)
  refine r_rS h (fun hs4 => ?_)
  refine r_aload_n h dX12_readWay_115 rfl 0 rfl ?_
  have hq5 := w_ref hw ht rC_86 (by decide) (k := 22) (by decide) rf_12_22
  refine g_X12_54 h dX12_readWay_116 ht rC_86 hq5.1 ?_
  refine r_iload_n h dX12_readWay_119 rfl 1 rfl ?_
  refine r_iconst h dX12_readWay_120 ?_
  obtain ⟨hi6, hf⟩ := oc_some hf
  refine r_iast h dX12_readWay_121 hq5.2 rC_100 rx1 (N := 28) (by rw [rN_100]; rfl) (j := (x1).toNat) rfl hi6 (rIc rfl) ?_
  refine r_os hf (fun s7 hf => ?_)
  refine r_rS h (fun hs7 => ?_)
  refine r_aload_n h dX12_readWay_122 rfl 0 rfl ?_
  obtain ⟨r8, s8, hq8, hf⟩ := ob_some hf
  refine r_callV2 h [] dX12_readWay_123 (fun hs => m_Mo_isGood hw ht hs hq8) ml_X12_265 cv_Mo_isGood rfl (co := 12) rfl (by decide) ht rC_86 ⟨rfl, rfl⟩ ⟨Nat.le_of_ble_eq_true rfl, Nat.le_of_ble_eq_true rfl⟩ ⟨Nat.le_of_ble_eq_true rfl, Nat.le_of_ble_eq_true rfl⟩ (Nat.le_of_ble_eq_true rfl) rfl (fun hr8 hs8 => ?_)
  refine r_if_eq (tgt := 153) h dX12_readWay_126 (by decide) (rI_b hr8) (fun hc9 => ?_) (fun hc9 => ?_)
  · have hf := ite_t hc9 hf
    refine r_sub h [0] rfl ?_
    exact b_Mo_readWay_153 h hr hw ht s8 hf
  · have hf := ite_f hc9 hf
    refine r_aload_n h dX12_readWay_129 rfl 0 rfl ?_
    refine r_ldc2 (x := 495689623668) h dX12_readWay_130 (gt_in7 129 rfl rfl) rfl ?_
    obtain ⟨r10, s10, hq10, hf⟩ := ob_some hf
    refine r_callV2 h [.long (vJ 495689623668)] dX12_readWay_133 (fun hs => m_Mo_isWord hw ht (rJc rfl) hs hq10) ml_X12_275 cv_Mo_isWord rfl (co := 12) rfl (by decide) ht rC_86 ⟨rfl, rfl⟩ ⟨Nat.le_of_ble_eq_true rfl, Nat.le_of_ble_eq_true rfl⟩ ⟨Nat.le_of_ble_eq_true rfl, Nat.le_of_ble_eq_true rfl⟩ (Nat.le_of_ble_eq_true rfl) rfl (fun hr10 hs10 => ?_)
    refine r_if_eq (tgt := 153) h dX12_readWay_136 (by decide) (rI_b hr10) (fun hc11 => ?_) (fun hc11 => ?_)
    · have hf := ite_t hc11 hf
      refine r_sub h [0] rfl ?_
      exact b_Mo_readWay_153 h hr hw ht s10 hf
    · have hf := ite_f hc11 hf
      refine r_aload_n h dX12_readWay_139 rfl 0 rfl ?_
      obtain ⟨r12, s12, hq12, hf⟩ := ob_some hf
      refine r_callV0 h [] dX12_readWay_140 (fun hs => m_Mo_goOn hw ht hs hq12) ml_X12_269 cv_Mo_goOn rfl (co := 12) rfl (by decide) ht rC_86 ⟨rfl, rfl⟩ ⟨Nat.le_of_ble_eq_true rfl, Nat.le_of_ble_eq_true rfl⟩ ⟨Nat.le_of_ble_eq_true rfl, Nat.le_of_ble_eq_true rfl⟩ (Nat.le_of_ble_eq_true rfl) rfl (fun hr12 hs12 => ?_)
      refine r_aload_n h dX12_readWay_143 rfl 0 rfl ?_
      have hq13 := w_ref hw ht rC_86 (by decide) (k := 22) (by decide) rf_12_22
      refine g_X12_54 h dX12_readWay_144 ht rC_86 hq13.1 ?_
      refine r_iload_n h dX12_readWay_147 rfl 1 rfl ?_
      refine r_aload_n h dX12_readWay_148 rfl 0 rfl ?_
      obtain ⟨r14, s14, hq14, hf⟩ := ob_some hf
      refine r_callV1 h [] dX12_readWay_149 (fun hs => m_Mo_signedNumber hw ht hs hq14) ml_X12_339 cv_Mo_signedNumber rfl (co := 12) rfl (by decide) ht rC_86 ⟨rfl, rfl⟩ ⟨Nat.le_of_ble_eq_true rfl, Nat.le_of_ble_eq_true rfl⟩ ⟨Nat.le_of_ble_eq_true rfl, Nat.le_of_ble_eq_true rfl⟩ (Nat.le_of_ble_eq_true rfl) rfl (fun hr14 hs14 => ?_)
      obtain ⟨hi15, hf⟩ := oc_some hf
      refine r_iast h dX12_readWay_152 hq13.2 rC_100 rx1 (N := 28) (by rw [rN_100]; rfl) (j := (x1).toNat) rfl hi15 hr14 ?_
      refine r_os hf (fun s16 hf => ?_)
      refine r_rS h (fun hs16 => ?_)
      refine r_sub h [0] rfl ?_
      exact b_Mo_readWay_153 h hr hw ht s16 hf
set_option maxRecDepth 20000 in
theorem b_Mo_readWay_91 {l : Launch} {D : va_G} {cs : Nat → ClassId} {aS aV : Nat} {A : Nat → Prop} {K : KT} {ad : Nat → Nat} {n : Nat} {nl : Nat → Nat → Bool} {out : Int × SS} (h : w_Cl l rm_Mo_readWay D cs aS aV A cX12_readWay 2 RX12 "readWay" K) (hr : w_Rt 0 cX12_readWay 0 0 (w_Po ad n nl out) K) (hw : w_WH n nl) (ht : 86 < n) (x1 : Int) (s0 : SS) (rx1 : rI x1) (hf : j_Mo_readWay_91 x1 s0 = some out) : K ad n nl 0 0 91 [(0, .ref (ad 86)), (1, .int (vI x1))] [] s0 := by
  unfold j_Mo_readWay_91 at hf
  refine r_rS h (fun hs0 => ?_)
  refine r_aload_n h dX12_readWay_91 rfl 0 rfl ?_
  obtain ⟨r1, s1, hq1, hf⟩ := ob_some hf
  refine r_callV2 h [] dX12_readWay_92 (fun hs => m_Mo_isGood hw ht hs hq1) ml_X12_265 cv_Mo_isGood rfl (co := 12) rfl (by decide) ht rC_86 ⟨rfl, rfl⟩ ⟨Nat.le_of_ble_eq_true rfl, Nat.le_of_ble_eq_true rfl⟩ ⟨Nat.le_of_ble_eq_true rfl, Nat.le_of_ble_eq_true rfl⟩ (Nat.le_of_ble_eq_true rfl) rfl (fun hr1 hs1 => ?_)
  refine r_if_eq (tgt := 102) h dX12_readWay_95 (by decide) (rI_b hr1) (fun hc2 => ?_) (fun hc2 => ?_)
  · have hf := ite_t hc2 hf
    exact b_Mo_readWay_102 h hr hw ht x1 s1 rx1 hf
  · have hf := ite_f hc2 hf
    refine r_aload_n h dX12_readWay_98 rfl 0 rfl ?_
    obtain ⟨r3, s3, hq3, hf⟩ := ob_some hf
    refine r_callV0 h [] dX12_readWay_99 (fun hs => m_Mo_goOn hw ht hs hq3) ml_X12_269 cv_Mo_goOn rfl (co := 12) rfl (by decide) ht rC_86 ⟨rfl, rfl⟩ ⟨Nat.le_of_ble_eq_true rfl, Nat.le_of_ble_eq_true rfl⟩ ⟨Nat.le_of_ble_eq_true rfl, Nat.le_of_ble_eq_true rfl⟩ (Nat.le_of_ble_eq_true rfl) rfl (fun hr3 hs3 => ?_)
    exact b_Mo_readWay_102 h hr hw ht x1 s3 rx1 hf
set_option maxRecDepth 20000 in
theorem b_Mo_readWay_39 {l : Launch} {D : va_G} {cs : Nat → ClassId} {aS aV : Nat} {A : Nat → Prop} {K : KT} {ad : Nat → Nat} {n : Nat} {nl : Nat → Nat → Bool} {out : Int × SS} (h : w_Cl l rm_Mo_readWay D cs aS aV A cX12_readWay 2 RX12 "readWay" K) (hr : w_Rt 0 cX12_readWay 0 0 (w_Po ad n nl out) K) (hw : w_WH n nl) (ht : 86 < n) (x1 : Int) (s0 : SS) (rx1 : rI x1) (hf : j_Mo_readWay_39 x1 s0 = some out) : K ad n nl 0 0 39 [(0, .ref (ad 86)), (1, .int (vI x1))] [] s0 := by
  unfold j_Mo_readWay_39 at hf
  refine r_rS h (fun hs0 => ?_)
  refine r_aload_n h dX12_readWay_39 rfl 0 rfl ?_
  refine r_aload_n h dX12_readWay_40 rfl 0 rfl ?_
  refine r_ldc2 (x := 29807) h dX12_readWay_41 (gt_in7 128 rfl rfl) rfl ?_
  obtain ⟨r1, s1, hq1, hf⟩ := ob_some hf
  refine r_callV2 h [.long (vJ 29807)] dX12_readWay_44 (fun hs => m_Mo_isWord hw ht (rJc rfl) hs hq1) ml_X12_275 cv_Mo_isWord rfl (co := 12) rfl (by decide) ht rC_86 ⟨rfl, rfl⟩ ⟨Nat.le_of_ble_eq_true rfl, Nat.le_of_ble_eq_true rfl⟩ ⟨Nat.le_of_ble_eq_true rfl, Nat.le_of_ble_eq_true rfl⟩ (Nat.le_of_ble_eq_true rfl) rfl (fun hr1 hs1 => ?_)
  obtain ⟨r2, s2, hq2, hf⟩ := ob_some hf
  refine r_callV0 h [.int (vI r1)] dX12_readWay_47 (fun hs => m_Mo_must hw ht hr1 hs hq2) ml_X12_278 cv_Mo_must rfl (co := 12) rfl (by decide) ht rC_86 ⟨rfl, rfl⟩ ⟨Nat.le_of_ble_eq_true rfl, Nat.le_of_ble_eq_true rfl⟩ ⟨Nat.le_of_ble_eq_true rfl, Nat.le_of_ble_eq_true rfl⟩ (Nat.le_of_ble_eq_true rfl) rfl (fun hr2 hs2 => ?_)
  refine r_aload_n h dX12_readWay_50 rfl 0 rfl ?_
  have hq3 := w_ref hw ht rC_86 (by decide) (k := 20) (by decide) rf_12_20
  refine g_X12_48 h dX12_readWay_51 ht rC_86 hq3.1 ?_
  refine r_iload_n h dX12_readWay_54 rfl 1 rfl ?_
  refine r_aload_n h dX12_readWay_55 rfl 0 rfl ?_
  obtain ⟨r4, s4, hq4, hf⟩ := ob_some hf
  refine r_callV1 h [] dX12_readWay_56 (fun hs => m_Mo_known hw ht hs hq4) ml_X12_335 cv_Mo_known rfl (co := 12) rfl (by decide) ht rC_86 ⟨rfl, rfl⟩ ⟨Nat.le_of_ble_eq_true rfl, Nat.le_of_ble_eq_true rfl⟩ ⟨Nat.le_of_ble_eq_true rfl, Nat.le_of_ble_eq_true rfl⟩ (Nat.le_of_ble_eq_true rfl) rfl (fun hr4 hs4 => ?_)
  obtain ⟨hi5, hf⟩ := oc_some hf
  refine r_iast h dX12_readWay_59 hq3.2 rC_98 rx1 (N := 28) (by rw [rN_98]; rfl) (j := (x1).toNat) rfl hi5 hr4 ?_
  refine r_os hf (fun s6 hf => ?_)
  refine r_rS h (fun hs6 => ?_)
  refine r_aload_n h dX12_readWay_60 rfl 0 rfl ?_
  obtain ⟨r7, s7, hq7, hf⟩ := ob_some hf
  refine r_callV2 h [] dX12_readWay_61 (fun hs => m_Mo_isGood hw ht hs hq7) ml_X12_265 cv_Mo_isGood rfl (co := 12) rfl (by decide) ht rC_86 ⟨rfl, rfl⟩ ⟨Nat.le_of_ble_eq_true rfl, Nat.le_of_ble_eq_true rfl⟩ ⟨Nat.le_of_ble_eq_true rfl, Nat.le_of_ble_eq_true rfl⟩ (Nat.le_of_ble_eq_true rfl) rfl (fun hr7 hs7 => ?_)
  refine r_if_eq (tgt := 91) h dX12_readWay_64 (by decide) (rI_b hr7) (fun hc8 => ?_) (fun hc8 => ?_)
  · have hf := ite_t hc8 hf
    exact b_Mo_readWay_91 h hr hw ht x1 s7 rx1 hf
  · have hf := ite_f hc8 hf
    refine r_aload_n h dX12_readWay_67 rfl 0 rfl ?_
    have hq9 := w_ref hw ht rC_86 (by decide) (k := 20) (by decide) rf_12_20
    refine g_X12_48 h dX12_readWay_68 ht rC_86 hq9.1 ?_
    refine r_iload_n h dX12_readWay_71 rfl 1 rfl ?_
    obtain ⟨hi10, hf⟩ := oc_some hf
    refine r_iald h dX12_readWay_72 hq9.2 rC_98 rx1 (N := 28) (by rw [rN_98]; rfl) (j := (x1).toNat) rfl hi10 ?_
    refine r_aload_n h dX12_readWay_73 rfl 0 rfl ?_
    have hq11 := w_ref hw ht rC_86 (by decide) (k := 19) (by decide) rf_12_19
    refine g_X12_45 h dX12_readWay_74 ht rC_86 hq11.1 ?_
    refine r_iload_n h dX12_readWay_77 rfl 1 rfl ?_
    obtain ⟨hi12, hf⟩ := oc_some hf
    refine r_iald h dX12_readWay_78 hq11.2 rC_97 rx1 (N := 28) (by rw [rN_97]; rfl) (j := (x1).toNat) rfl hi12 ?_
    refine r_icmp_ne (tgt := 91) h dX12_readWay_79 (by decide) (hs7.1 _ _) (hs7.1 _ _) (fun hc13 => ?_) (fun hc13 => ?_)
    · have hf := ite_f hc13 hf
      exact b_Mo_readWay_91 h hr hw ht x1 s7 rx1 hf
    · have hf := ite_nf hc13 hf
      refine r_aload_n h dX12_readWay_82 rfl 0 rfl ?_
      refine r_iconst h dX12_readWay_83 ?_
      refine r_aload_n h dX12_readWay_84 rfl 0 rfl ?_
      refine g_X12_230 h dX12_readWay_85 ht rC_86 ?_
      obtain ⟨r14, s14, hq14, hf⟩ := ob_some hf
      refine r_callV0 h [.int (vI 3), .int (vI (gi s7 86 6))] dX12_readWay_88 (fun hs => m_Mo_fails hw ht (rIc rfl) (hs7.1 _ _) hs hq14) ml_X12_261 cv_Mo_fails rfl (co := 12) rfl (by decide) ht rC_86 ⟨rfl, rfl⟩ ⟨Nat.le_of_ble_eq_true rfl, Nat.le_of_ble_eq_true rfl⟩ ⟨Nat.le_of_ble_eq_true rfl, Nat.le_of_ble_eq_true rfl⟩ (Nat.le_of_ble_eq_true rfl) rfl (fun hr14 hs14 => ?_)
      exact b_Mo_readWay_91 h hr hw ht x1 s14 rx1 hf
set_option maxRecDepth 20000 in
theorem m_Mo_readWay {l : Launch} {D : va_G} {cs : Nat → ClassId} {aS aV : Nat} {A : Nat → Prop} {ad : Nat → Nat} {n : Nat} {nl : Nat → Nat → Bool} {out : Int × SS} (hw : w_WH n nl) (ht : 86 < n) {s0 : SS} (hs0 : rS s0) (hf : f_Mo_readWay s0 = some out) : w_MC l D cs aS aV A yX12_readWay cX12_readWay 2 0 rm_Mo_readWay ad n nl [.ref (ad 86)] s0 (w_Po ad n nl out) := by
  refine w_MC_of (by decide +kernel) (by decide) hs0 (Nat.le_of_ble_eq_true rfl) (fun K h hr => ?_)
  refine r_lv (lv' := [(0, .ref (ad 86))]) rfl ?_
  unfold f_Mo_readWay at hf
  refine r_rS h (fun hs0 => ?_)
  refine r_bipush h dX12_readWay_0 (by decide) ?_
  refine r_aload_n h dX12_readWay_2 rfl 0 rfl ?_
  refine g_X12_286 h dX12_readWay_3 ht rC_86 ?_
  refine r_imul h dX12_readWay_6 ?_
  refine r_aload_n h dX12_readWay_7 rfl 0 rfl ?_
  have hq1 := w_ref hw ht rC_86 (by decide) (k := 12) (by decide) rf_12_12
  refine g_X12_24 h dX12_readWay_8 ht rC_86 hq1.1 ?_
  refine r_aload_n h dX12_readWay_11 rfl 0 rfl ?_
  refine g_X12_286 h dX12_readWay_12 ht rC_86 ?_
  obtain ⟨hi2, hf⟩ := oc_some hf
  refine r_iald h dX12_readWay_15 hq1.2 rC_90 (hs0.1 _ _) (N := 2) (by rw [rN_90]; rfl) (j := (gi s0 86 41).toNat) rfl hi2 ?_
  refine r_iadd h dX12_readWay_16 ?_
  refine r_ol hf (rI_iw _) (fun x3_ rx3_ hf => ?_)
  refine r_istore_n h [(1, .int (vI x3_)), (0, .ref (ad 86))] dX12_readWay_17 rfl (by decide) rfl ?_
  refine r_aload_n h dX12_readWay_18 rfl 1 rfl ?_
  have hq4 := w_ref hw ht rC_86 (by decide) (k := 19) (by decide) rf_12_19
  refine g_X12_45 h dX12_readWay_19 ht rC_86 hq4.1 ?_
  refine r_iload_n h dX12_readWay_22 rfl 0 rfl ?_
  refine r_aload_n h dX12_readWay_23 rfl 1 rfl ?_
  obtain ⟨r5, s5, hq5, hf⟩ := ob_some hf
  refine r_callV1 h [] dX12_readWay_24 (fun hs => m_Mo_known hw ht hs hq5) ml_X12_335 cv_Mo_known rfl (co := 12) rfl (by decide) ht rC_86 ⟨rfl, rfl⟩ ⟨Nat.le_of_ble_eq_true rfl, Nat.le_of_ble_eq_true rfl⟩ ⟨Nat.le_of_ble_eq_true rfl, Nat.le_of_ble_eq_true rfl⟩ (Nat.le_of_ble_eq_true rfl) rfl (fun hr5 hs5 => ?_)
  obtain ⟨hi6, hf⟩ := oc_some hf
  refine r_iast h dX12_readWay_27 hq4.2 rC_97 rx3_ (N := 28) (by rw [rN_97]; rfl) (j := (x3_).toNat) rfl hi6 hr5 ?_
  refine r_os hf (fun s7 hf => ?_)
  refine r_rS h (fun hs7 => ?_)
  refine r_aload_n h dX12_readWay_28 rfl 1 rfl ?_
  obtain ⟨r8, s8, hq8, hf⟩ := ob_some hf
  refine r_callV2 h [] dX12_readWay_29 (fun hs => m_Mo_isGood hw ht hs hq8) ml_X12_265 cv_Mo_isGood rfl (co := 12) rfl (by decide) ht rC_86 ⟨rfl, rfl⟩ ⟨Nat.le_of_ble_eq_true rfl, Nat.le_of_ble_eq_true rfl⟩ ⟨Nat.le_of_ble_eq_true rfl, Nat.le_of_ble_eq_true rfl⟩ (Nat.le_of_ble_eq_true rfl) rfl (fun hr8 hs8 => ?_)
  refine r_if_eq (tgt := 39) h dX12_readWay_32 (by decide) (rI_b hr8) (fun hc9 => ?_) (fun hc9 => ?_)
  · have hf := ite_t hc9 hf
    refine r_sub h [1, 0] rfl ?_
    exact b_Mo_readWay_39 h hr hw ht x3_ s8 rx3_ hf
  · have hf := ite_f hc9 hf
    refine r_aload_n h dX12_readWay_35 rfl 1 rfl ?_
    obtain ⟨r10, s10, hq10, hf⟩ := ob_some hf
    refine r_callV0 h [] dX12_readWay_36 (fun hs => m_Mo_goOn hw ht hs hq10) ml_X12_269 cv_Mo_goOn rfl (co := 12) rfl (by decide) ht rC_86 ⟨rfl, rfl⟩ ⟨Nat.le_of_ble_eq_true rfl, Nat.le_of_ble_eq_true rfl⟩ ⟨Nat.le_of_ble_eq_true rfl, Nat.le_of_ble_eq_true rfl⟩ (Nat.le_of_ble_eq_true rfl) rfl (fun hr10 hs10 => ?_)
    refine r_sub h [1, 0] rfl ?_
    exact b_Mo_readWay_39 h hr hw ht x3_ s10 rx3_ hf
set_option maxRecDepth 20000 in
theorem m_Mo_readSoul {l : Launch} {D : va_G} {cs : Nat → ClassId} {aS aV : Nat} {A : Nat → Prop} {ad : Nat → Nat} {n : Nat} {nl : Nat → Nat → Bool} {out : Int × SS} (hw : w_WH n nl) (ht : 86 < n) {s0 : SS} (hs0 : rS s0) (hf : f_Mo_readSoul s0 = some out) : w_MC l D cs aS aV A yX12_readSoul cX12_readSoul 2 0 rm_Mo_readSoul ad n nl [.ref (ad 86)] s0 (w_Po ad n nl out) := by
  refine w_MC_of (by decide +kernel) (by decide) hs0 (Nat.le_of_ble_eq_true rfl) (fun K h hr => ?_)
  refine r_lv (lv' := [(0, .ref (ad 86))]) rfl ?_
  unfold f_Mo_readSoul at hf
  refine r_rS h (fun hs0 => ?_)
  refine r_bipush h dX12_readSoul_0 (by decide) ?_
  refine r_aload_n h dX12_readSoul_2 rfl 0 rfl ?_
  refine g_X12_286 h dX12_readSoul_3 ht rC_86 ?_
  refine r_imul h dX12_readSoul_6 ?_
  refine r_aload_n h dX12_readSoul_7 rfl 0 rfl ?_
  have hq1 := w_ref hw ht rC_86 (by decide) (k := 13) (by decide) rf_12_13
  refine g_X12_27 h dX12_readSoul_8 ht rC_86 hq1.1 ?_
  refine r_aload_n h dX12_readSoul_11 rfl 0 rfl ?_
  refine g_X12_286 h dX12_readSoul_12 ht rC_86 ?_
  obtain ⟨hi2, hf⟩ := oc_some hf
  refine r_iald h dX12_readSoul_15 hq1.2 rC_91 (hs0.1 _ _) (N := 2) (by rw [rN_91]; rfl) (j := (gi s0 86 41).toNat) rfl hi2 ?_
  refine r_iadd h dX12_readSoul_16 ?_
  refine r_ol hf (rI_iw _) (fun x3_ rx3_ hf => ?_)
  refine r_istore_n h [(1, .int (vI x3_)), (0, .ref (ad 86))] dX12_readSoul_17 rfl (by decide) rfl ?_
  refine r_aload_n h dX12_readSoul_18 rfl 1 rfl ?_
  have hq4 := w_ref hw ht rC_86 (by decide) (k := 33) (by decide) rf_12_33
  refine g_X12_89 h dX12_readSoul_19 ht rC_86 hq4.1 ?_
  refine r_iload_n h dX12_readSoul_22 rfl 0 rfl ?_
  refine r_aload_n h dX12_readSoul_23 rfl 1 rfl ?_
  refine r_aload_n h dX12_readSoul_24 rfl 1 rfl ?_
  refine r_aload_n h dX12_readSoul_25 rfl 1 rfl ?_
  have hq5 := w_ref hw ht rC_86 (by decide) (k := 33) (by decide) rf_12_33
  refine g_X12_89 h dX12_readSoul_26 ht rC_86 hq5.1 ?_
  refine r_bipush h dX12_readSoul_29 (by decide) ?_
  refine r_aload_n h dX12_readSoul_31 rfl 1 rfl ?_
  refine g_X12_286 h dX12_readSoul_32 ht rC_86 ?_
  refine r_imul h dX12_readSoul_35 ?_
  refine r_aload_n h dX12_readSoul_36 rfl 1 rfl ?_
  have hq6 := w_ref hw ht rC_86 (by decide) (k := 13) (by decide) rf_12_13
  refine g_X12_27 h dX12_readSoul_37 ht rC_86 hq6.1 ?_
  refine r_aload_n h dX12_readSoul_40 rfl 1 rfl ?_
  refine g_X12_286 h dX12_readSoul_41 ht rC_86 ?_
  obtain ⟨hi7, hf⟩ := oc_some hf
  refine r_iald h dX12_readSoul_44 hq6.2 rC_91 (hs0.1 _ _) (N := 2) (by rw [rN_91]; rfl) (j := (gi s0 86 41).toNat) rfl hi7 ?_
  obtain ⟨r8, s8, hq8, hf⟩ := ob_some hf
  refine r_callV1 h [.ref (ad 111), .int (vI (iw (6 * (gi s0 86 41)))), .int (vI (gi s0 91 ((gi s0 86 41).toNat)))] dX12_readSoul_45 (fun hs => m_Mo_here hw ht hq5.2 rC_111 (rI_iw _) (hs0.1 _ _) hs hq8) ml_X12_323 cv_Mo_here rfl (co := 12) rfl (by decide) ht rC_86 ⟨rfl, rfl⟩ ⟨Nat.le_of_ble_eq_true rfl, Nat.le_of_ble_eq_true rfl⟩ ⟨Nat.le_of_ble_eq_true rfl, Nat.le_of_ble_eq_true rfl⟩ (Nat.le_of_ble_eq_true rfl) rfl (fun hr8 hs8 => ?_)
  obtain ⟨r9, s9, hq9, hf⟩ := ob_some hf
  refine r_callV3 h [.int (vI r8)] dX12_readSoul_48 (fun hs => m_Mo_fresh hw ht hr8 hs hq9) ml_X12_327 cv_Mo_fresh rfl (co := 12) rfl (by decide) ht rC_86 ⟨rfl, rfl⟩ ⟨Nat.le_of_ble_eq_true rfl, Nat.le_of_ble_eq_true rfl⟩ ⟨Nat.le_of_ble_eq_true rfl, Nat.le_of_ble_eq_true rfl⟩ (Nat.le_of_ble_eq_true rfl) rfl (fun hr9 hs9 => ?_)
  obtain ⟨hi10, hf⟩ := oc_some hf
  refine r_last h dX12_readSoul_51 hq4.2 rC_111 rx3_ (N := 12) (by rw [rN_111]; rfl) (j := (x3_).toNat) rfl hi10 hr9 ?_
  refine r_os hf (fun s11 hf => ?_)
  refine r_rS h (fun hs11 => ?_)
  refine r_aload_n h dX12_readSoul_52 rfl 1 rfl ?_
  have hq12 := w_ref hw ht rC_86 (by decide) (k := 23) (by decide) rf_12_23
  refine g_X12_57 h dX12_readSoul_53 ht rC_86 hq12.1 ?_
  refine r_iload_n h dX12_readSoul_56 rfl 0 rfl ?_
  refine r_aload_n h dX12_readSoul_57 rfl 1 rfl ?_
  refine r_ldc2 (x := 8319403477078864494) h dX12_readSoul_58 (gt_in7 131 rfl rfl) rfl ?_
  refine r_iconst h dX12_readSoul_61 ?_
  refine r_bipush h dX12_readSoul_62 (by decide) ?_
  obtain ⟨r13, s13, hq13, hf⟩ := ob_some hf
  refine r_callV1 h [.long (vJ 8319403477078864494), .int (vI 0), .int (vI 9)] dX12_readSoul_64 (fun hs => m_Mo_after hw ht (rJc rfl) (rIc rfl) (rIc rfl) hs hq13) ml_X12_331 cv_Mo_after rfl (co := 12) rfl (by decide) ht rC_86 ⟨rfl, rfl⟩ ⟨Nat.le_of_ble_eq_true rfl, Nat.le_of_ble_eq_true rfl⟩ ⟨Nat.le_of_ble_eq_true rfl, Nat.le_of_ble_eq_true rfl⟩ (Nat.le_of_ble_eq_true rfl) rfl (fun hr13 hs13 => ?_)
  obtain ⟨hi14, hf⟩ := oc_some hf
  refine r_iast h dX12_readSoul_67 hq12.2 rC_101 rx3_ (N := 12) (by rw [rN_101]; rfl) (j := (x3_).toNat) rfl hi14 hr13 ?_
  refine r_os hf (fun s15 hf => ?_)
  refine r_rS h (fun hs15 => ?_)
  refine r_aload_n h dX12_readSoul_68 rfl 1 rfl ?_
  have hq16 := w_ref hw ht rC_86 (by decide) (k := 24) (by decide) rf_12_24
  refine g_X12_60 h dX12_readSoul_69 ht rC_86 hq16.1 ?_
  refine r_iload_n h dX12_readSoul_72 rfl 0 rfl ?_
  refine r_aload_n h dX12_readSoul_73 rfl 1 rfl ?_
  refine r_ldc2 (x := 495673373300) h dX12_readSoul_74 (gt_in7 132 rfl rfl) rfl ?_
  refine r_iconst h dX12_readSoul_77 ?_
  refine r_bipush h dX12_readSoul_78 (by decide) ?_
  obtain ⟨r17, s17, hq17, hf⟩ := ob_some hf
  refine r_callV1 h [.long (vJ 495673373300), .int (vI 0), .int (vI 9)] dX12_readSoul_80 (fun hs => m_Mo_after hw ht (rJc rfl) (rIc rfl) (rIc rfl) hs hq17) ml_X12_331 cv_Mo_after rfl (co := 12) rfl (by decide) ht rC_86 ⟨rfl, rfl⟩ ⟨Nat.le_of_ble_eq_true rfl, Nat.le_of_ble_eq_true rfl⟩ ⟨Nat.le_of_ble_eq_true rfl, Nat.le_of_ble_eq_true rfl⟩ (Nat.le_of_ble_eq_true rfl) rfl (fun hr17 hs17 => ?_)
  obtain ⟨hi18, hf⟩ := oc_some hf
  refine r_iast h dX12_readSoul_83 hq16.2 rC_102 rx3_ (N := 12) (by rw [rN_102]; rfl) (j := (x3_).toNat) rfl hi18 hr17 ?_
  refine r_os hf (fun s19 hf => ?_)
  refine r_rS h (fun hs19 => ?_)
  refine r_aload_n h dX12_readSoul_84 rfl 1 rfl ?_
  have hq20 := w_ref hw ht rC_86 (by decide) (k := 13) (by decide) rf_12_13
  refine g_X12_27 h dX12_readSoul_85 ht rC_86 hq20.1 ?_
  refine r_aload_n h dX12_readSoul_88 rfl 1 rfl ?_
  refine g_X12_286 h dX12_readSoul_89 ht rC_86 ?_
  refine r_dup2a h dX12_readSoul_92 rfl rfl ?_
  obtain ⟨hi21, hf⟩ := oc_some hf
  refine r_iald h dX12_readSoul_93 hq20.2 rC_91 (hs19.1 _ _) (N := 2) (by rw [rN_91]; rfl) (j := (gi s19 86 41).toNat) rfl hi21 ?_
  refine r_iconst h dX12_readSoul_94 ?_
  refine r_iadd h dX12_readSoul_95 ?_
  obtain ⟨hi22, hf⟩ := oc_some hf
  refine r_iast h dX12_readSoul_96 hq20.2 rC_91 (hs19.1 _ _) (N := 2) (by rw [rN_91]; rfl) (j := (gi s19 86 41).toNat) rfl hi22 (rI_iw _) ?_
  refine r_os hf (fun s23 hf => ?_)
  refine r_rS h (fun hs23 => ?_)
  exact r_ret0 (x := 0) hr dX12_readSoul_97 hf
set_option maxRecDepth 20000 in
theorem b_Mo_readMatter_154 {l : Launch} {D : va_G} {cs : Nat → ClassId} {aS aV : Nat} {A : Nat → Prop} {K : KT} {ad : Nat → Nat} {n : Nat} {nl : Nat → Nat → Bool} {out : Int × SS} (h : w_Cl l rm_Mo_readMatter D cs aS aV A cX12_readMatter 2 RX12 "readMatter" K) (hr : w_Rt 0 cX12_readMatter 0 0 (w_Po ad n nl out) K) (hw : w_WH n nl) (ht : 86 < n) (x1 : Int) (z1 : Int) (z2 : Int) (self86 : SS → OO) (hself86 : ∀ (τ : SS), self86 τ = some out → K ad n nl 0 0 86 [(0, .ref (ad 86)), (1, .int (vI x1))] [] τ) (s0 : SS) (rx1 : rI x1) (rz1 : rI z1) (rz2 : rI z2) (hf : j_Mo_readMatter_154 self86 x1 z1 z2 s0 = some out) : K ad n nl 0 0 154 [(0, .ref (ad 86)), (1, .int (vI x1))] [.int (vI z2), .int (vI z1), .ref (ad 105)] s0 := by
  unfold j_Mo_readMatter_154 at hf
  have q105_0 := w_ref hw ht rC_86 (by decide) (k := 27) (by decide) rf_12_27
  refine r_rS h (fun hs0 => ?_)
  refine r_iadd h dX12_readMatter_154 ?_
  refine r_aload_n h dX12_readMatter_155 rfl 0 rfl ?_
  refine r_iconst h dX12_readMatter_156 ?_
  refine r_bipush h dX12_readMatter_157 (by decide) ?_
  obtain ⟨r1, s1, hq1, hf⟩ := ob_some hf
  refine r_callV1 h [.int (vI 1), .int (vI 9)] dX12_readMatter_159 (fun hs => m_Mo_numeral hw ht (rIc rfl) (rIc rfl) hs hq1) ml_X12_282 cv_Mo_numeral rfl (co := 12) rfl (by decide) ht rC_86 ⟨rfl, rfl⟩ ⟨Nat.le_of_ble_eq_true rfl, Nat.le_of_ble_eq_true rfl⟩ ⟨Nat.le_of_ble_eq_true rfl, Nat.le_of_ble_eq_true rfl⟩ (Nat.le_of_ble_eq_true rfl) rfl (fun hr1 hs1 => ?_)
  obtain ⟨hi2, hf⟩ := oc_some hf
  refine r_iast h dX12_readMatter_162 q105_0.2 rC_105 (rI_iw _) (N := 96) (by rw [rN_105]; rfl) (j := (iw (z1 + z2)).toNat) rfl hi2 hr1 ?_
  refine r_os hf (fun s3 hf => ?_)
  refine r_rS h (fun hs3 => ?_)
  refine r_aload_n h dX12_readMatter_163 rfl 0 rfl ?_
  have hq4 := w_ref hw ht rC_86 (by decide) (k := 26) (by decide) rf_12_26
  refine g_X12_66 h dX12_readMatter_164 ht rC_86 hq4.1 ?_
  refine r_iload_n h dX12_readMatter_167 rfl 1 rfl ?_
  refine r_dup2a h dX12_readMatter_168 rfl rfl ?_
  obtain ⟨hi5, hf⟩ := oc_some hf
  refine r_iald h dX12_readMatter_169 hq4.2 rC_104 rx1 (N := 12) (by rw [rN_104]; rfl) (j := (x1).toNat) rfl hi5 ?_
  refine r_iconst h dX12_readMatter_170 ?_
  refine r_iadd h dX12_readMatter_171 ?_
  obtain ⟨hi6, hf⟩ := oc_some hf
  refine r_iast h dX12_readMatter_172 hq4.2 rC_104 rx1 (N := 12) (by rw [rN_104]; rfl) (j := (x1).toNat) rfl hi6 (rI_iw _) ?_
  refine r_os hf (fun s7 hf => ?_)
  refine r_rS h (fun hs7 => ?_)
  refine r_goto (tgt := 86) h dX12_readMatter_173 (by decide) ?_
  exact hself86 s7 hf
set_option maxRecDepth 20000 in
theorem b_Mo_readMatter_125 {l : Launch} {D : va_G} {cs : Nat → ClassId} {aS aV : Nat} {A : Nat → Prop} {K : KT} {ad : Nat → Nat} {n : Nat} {nl : Nat → Nat → Bool} {out : Int × SS} (h : w_Cl l rm_Mo_readMatter D cs aS aV A cX12_readMatter 2 RX12 "readMatter" K) (hr : w_Rt 0 cX12_readMatter 0 0 (w_Po ad n nl out) K) (hw : w_WH n nl) (ht : 86 < n) (x1 : Int) (self86 : SS → OO) (hself86 : ∀ (τ : SS), self86 τ = some out → K ad n nl 0 0 86 [(0, .ref (ad 86)), (1, .int (vI x1))] [] τ) (s0 : SS) (rx1 : rI x1) (hf : j_Mo_readMatter_125 self86 x1 s0 = some out) : K ad n nl 0 0 125 [(0, .ref (ad 86)), (1, .int (vI x1))] [] s0 := by
  unfold j_Mo_readMatter_125 at hf
  refine r_rS h (fun hs0 => ?_)
  refine r_aload_n h dX12_readMatter_125 rfl 0 rfl ?_
  have hq1 := w_ref hw ht rC_86 (by decide) (k := 27) (by decide) rf_12_27
  refine g_X12_69 h dX12_readMatter_126 ht rC_86 hq1.1 ?_
  refine r_bipush h dX12_readMatter_129 (by decide) ?_
  refine r_iload_n h dX12_readMatter_131 rfl 1 rfl ?_
  refine r_imul h dX12_readMatter_132 ?_
  refine r_aload_n h dX12_readMatter_133 rfl 0 rfl ?_
  have hq2 := w_ref hw ht rC_86 (by decide) (k := 26) (by decide) rf_12_26
  refine g_X12_66 h dX12_readMatter_134 ht rC_86 hq2.1 ?_
  refine r_iload_n h dX12_readMatter_137 rfl 1 rfl ?_
  obtain ⟨hi3, hf⟩ := oc_some hf
  refine r_iald h dX12_readMatter_138 hq2.2 rC_104 rx1 (N := 12) (by rw [rN_104]; rfl) (j := (x1).toNat) rfl hi3 ?_
  refine r_bipush h dX12_readMatter_139 (by decide) ?_
  refine r_icmp_ge (tgt := 153) h dX12_readMatter_141 (by decide) (hs0.1 _ _) (rIc rfl) (fun hc4 => ?_) (fun hc4 => ?_)
  · have hf := ite_t hc4 hf
    refine r_iconst h dX12_readMatter_153 ?_
    exact b_Mo_readMatter_154 h hr hw ht x1 (iw (8 * x1)) 0 self86 hself86 s0 rx1 (rI_iw _) (rIc rfl) hf
  · have hf := ite_f hc4 hf
    refine r_aload_n h dX12_readMatter_144 rfl 0 rfl ?_
    have hq5 := w_ref hw ht rC_86 (by decide) (k := 26) (by decide) rf_12_26
    refine g_X12_66 h dX12_readMatter_145 ht rC_86 hq5.1 ?_
    refine r_iload_n h dX12_readMatter_148 rfl 1 rfl ?_
    obtain ⟨hi6, hf⟩ := oc_some hf
    refine r_iald h dX12_readMatter_149 hq5.2 rC_104 rx1 (N := 12) (by rw [rN_104]; rfl) (j := (x1).toNat) rfl hi6 ?_
    refine r_goto (tgt := 154) h dX12_readMatter_150 (by decide) ?_
    exact b_Mo_readMatter_154 h hr hw ht x1 (iw (8 * x1)) (gi s0 104 ((x1).toNat)) self86 hself86 s0 rx1 (rI_iw _) (hs0.1 _ _) hf
set_option maxRecDepth 20000 in
theorem b_Mo_readMatter_110 {l : Launch} {D : va_G} {cs : Nat → ClassId} {aS aV : Nat} {A : Nat → Prop} {K : KT} {ad : Nat → Nat} {n : Nat} {nl : Nat → Nat → Bool} {out : Int × SS} (h : w_Cl l rm_Mo_readMatter D cs aS aV A cX12_readMatter 2 RX12 "readMatter" K) (hr : w_Rt 0 cX12_readMatter 0 0 (w_Po ad n nl out) K) (hw : w_WH n nl) (ht : 86 < n) (x1 : Int) (self86 : SS → OO) (hself86 : ∀ (τ : SS), self86 τ = some out → K ad n nl 0 0 86 [(0, .ref (ad 86)), (1, .int (vI x1))] [] τ) (s0 : SS) (rx1 : rI x1) (hf : j_Mo_readMatter_110 self86 x1 s0 = some out) : K ad n nl 0 0 110 [(0, .ref (ad 86)), (1, .int (vI x1))] [] s0 := by
  unfold j_Mo_readMatter_110 at hf
  refine r_rS h (fun hs0 => ?_)
  refine r_aload_n h dX12_readMatter_110 rfl 0 rfl ?_
  have hq1 := w_ref hw ht rC_86 (by decide) (k := 26) (by decide) rf_12_26
  refine g_X12_66 h dX12_readMatter_111 ht rC_86 hq1.1 ?_
  refine r_iload_n h dX12_readMatter_114 rfl 1 rfl ?_
  obtain ⟨hi2, hf⟩ := oc_some hf
  refine r_iald h dX12_readMatter_115 hq1.2 rC_104 rx1 (N := 12) (by rw [rN_104]; rfl) (j := (x1).toNat) rfl hi2 ?_
  refine r_bipush h dX12_readMatter_116 (by decide) ?_
  refine r_icmp_ne (tgt := 125) h dX12_readMatter_118 (by decide) (hs0.1 _ _) (rIc rfl) (fun hc3 => ?_) (fun hc3 => ?_)
  · have hf := ite_f hc3 hf
    exact b_Mo_readMatter_125 h hr hw ht x1 self86 hself86 s0 rx1 hf
  · have hf := ite_nf hc3 hf
    refine r_aload_n h dX12_readMatter_121 rfl 0 rfl ?_
    obtain ⟨r4, s4, hq4, hf⟩ := ob_some hf
    refine r_callV0 h [] dX12_readMatter_122 (fun hs => m_Mo_misplaced hw ht hs hq4) ml_X12_272 cv_Mo_misplaced rfl (co := 12) rfl (by decide) ht rC_86 ⟨rfl, rfl⟩ ⟨Nat.le_of_ble_eq_true rfl, Nat.le_of_ble_eq_true rfl⟩ ⟨Nat.le_of_ble_eq_true rfl, Nat.le_of_ble_eq_true rfl⟩ (Nat.le_of_ble_eq_true rfl) rfl (fun hr4 hs4 => ?_)
    exact b_Mo_readMatter_125 h hr hw ht x1 self86 hself86 s4 rx1 hf
set_option maxRecDepth 20000 in
theorem b_Mo_readMatter_176 {l : Launch} {D : va_G} {cs : Nat → ClassId} {aS aV : Nat} {A : Nat → Prop} {K : KT} {ad : Nat → Nat} {n : Nat} {nl : Nat → Nat → Bool} {out : Int × SS} (h : w_Cl l rm_Mo_readMatter D cs aS aV A cX12_readMatter 2 RX12 "readMatter" K) (hr : w_Rt 0 cX12_readMatter 0 0 (w_Po ad n nl out) K) (hw : w_WH n nl) (ht : 86 < n) (s0 : SS) (hf : j_Mo_readMatter_176 s0 = some out) : K ad n nl 0 0 176 [(0, .ref (ad 86))] [] s0 := by
  unfold j_Mo_readMatter_176 at hf
  refine r_rS h (fun hs0 => ?_)
  refine r_aload_n h dX12_readMatter_176 rfl 0 rfl ?_
  have hq1 := w_ref hw ht rC_86 (by decide) (k := 14) (by decide) rf_12_14
  refine g_X12_30 h dX12_readMatter_177 ht rC_86 hq1.1 ?_
  refine r_aload_n h dX12_readMatter_180 rfl 0 rfl ?_
  refine g_X12_286 h dX12_readMatter_181 ht rC_86 ?_
  refine r_dup2a h dX12_readMatter_184 rfl rfl ?_
  obtain ⟨hi2, hf⟩ := oc_some hf
  refine r_iald h dX12_readMatter_185 hq1.2 rC_92 (hs0.1 _ _) (N := 2) (by rw [rN_92]; rfl) (j := (gi s0 86 41).toNat) rfl hi2 ?_
  refine r_iconst h dX12_readMatter_186 ?_
  refine r_iadd h dX12_readMatter_187 ?_
  obtain ⟨hi3, hf⟩ := oc_some hf
  refine r_iast h dX12_readMatter_188 hq1.2 rC_92 (hs0.1 _ _) (N := 2) (by rw [rN_92]; rfl) (j := (gi s0 86 41).toNat) rfl hi3 (rI_iw _) ?_
  refine r_os hf (fun s4 hf => ?_)
  refine r_rS h (fun hs4 => ?_)
  exact r_ret0 (x := 0) hr dX12_readMatter_189 hf
set_option maxRecDepth 20000 in
theorem b_Mo_readMatter_86 {l : Launch} {D : va_G} {cs : Nat → ClassId} {aS aV : Nat} {A : Nat → Prop} {K : KT} {ad : Nat → Nat} {n : Nat} {nl : Nat → Nat → Bool} {out : Int × SS} (h : w_Cl l rm_Mo_readMatter D cs aS aV A cX12_readMatter 2 RX12 "readMatter" K) (hr : w_Rt 0 cX12_readMatter 0 0 (w_Po ad n nl out) K) (hw : w_WH n nl) (ht : 86 < n) {y1 : Int} (ry1 : rI y1) : ∀ (fu : Nat) (s0 : SS), l_Mo_readMatter_86 y1 fu s0 = some out → K ad n nl 0 0 86 [(0, .ref (ad 86)), (1, .int (vI y1))] [] s0 := by
  intro fu
  induction fu with
  | zero =>
    intro s0 hf
    rw [l_Mo_readMatter_86] at hf
    cases hf
  | succ fu ih =>
    intro s0 hf
    rw [l_Mo_readMatter_86] at hf
    refine r_rS h (fun hs0 => ?_)
    refine r_aload_n h dX12_readMatter_86 rfl 0 rfl ?_
    obtain ⟨r1, s1, hq1, hf⟩ := ob_some hf
    refine r_callV2 h [] dX12_readMatter_87 (fun hs => m_Mo_isGood hw ht hs hq1) ml_X12_265 cv_Mo_isGood rfl (co := 12) rfl (by decide) ht rC_86 ⟨rfl, rfl⟩ ⟨Nat.le_of_ble_eq_true rfl, Nat.le_of_ble_eq_true rfl⟩ ⟨Nat.le_of_ble_eq_true rfl, Nat.le_of_ble_eq_true rfl⟩ (Nat.le_of_ble_eq_true rfl) rfl (fun hr1 hs1 => ?_)
    refine r_if_eq (tgt := 176) h dX12_readMatter_90 (by decide) (rI_b hr1) (fun hc2 => ?_) (fun hc2 => ?_)
    · have hf := ite_t hc2 hf
      refine r_sub h [0] rfl ?_
      exact b_Mo_readMatter_176 h hr hw ht s1 hf
    · have hf := ite_f hc2 hf
      refine r_aload_n h dX12_readMatter_93 rfl 0 rfl ?_
      have hq3 := w_ref hw ht rC_86 (by decide) (k := 26) (by decide) rf_12_26
      refine g_X12_66 h dX12_readMatter_94 ht rC_86 hq3.1 ?_
      refine r_iload_n h dX12_readMatter_97 rfl 1 rfl ?_
      obtain ⟨hi4, hf⟩ := oc_some hf
      refine r_iald h dX12_readMatter_98 hq3.2 rC_104 ry1 (N := 12) (by rw [rN_104]; rfl) (j := (y1).toNat) rfl hi4 ?_
      refine r_if_eq (tgt := 110) h dX12_readMatter_99 (by decide) (hs1.1 _ _) (fun hc5 => ?_) (fun hc5 => ?_)
      · have hf := ite_t hc5 hf
        exact b_Mo_readMatter_110 h hr hw ht y1 (l_Mo_readMatter_86 y1 fu) ih s1 ry1 hf
      · have hf := ite_f hc5 hf
        refine r_aload_n h dX12_readMatter_102 rfl 0 rfl ?_
        refine g_X12_237 h dX12_readMatter_103 ht rC_86 ?_
        refine r_iconst h dX12_readMatter_106 ?_
        refine r_icmp_ne (tgt := 176) h dX12_readMatter_107 (by decide) (hs1.1 _ _) (rIc rfl) (fun hc6 => ?_) (fun hc6 => ?_)
        · have hf := ite_f hc6 hf
          refine r_sub h [0] rfl ?_
          exact b_Mo_readMatter_176 h hr hw ht s1 hf
        · have hf := ite_nf hc6 hf
          exact b_Mo_readMatter_110 h hr hw ht y1 (l_Mo_readMatter_86 y1 fu) ih s1 ry1 hf
set_option maxRecDepth 20000 in
theorem m_Mo_readMatter {l : Launch} {D : va_G} {cs : Nat → ClassId} {aS aV : Nat} {A : Nat → Prop} {ad : Nat → Nat} {n : Nat} {nl : Nat → Nat → Bool} {out : Int × SS} (hw : w_WH n nl) (ht : 86 < n) {s0 : SS} (hs0 : rS s0) (hf : f_Mo_readMatter s0 = some out) : w_MC l D cs aS aV A yX12_readMatter cX12_readMatter 2 0 rm_Mo_readMatter ad n nl [.ref (ad 86)] s0 (w_Po ad n nl out) := by
  refine w_MC_of (by decide +kernel) (by decide) hs0 (Nat.le_of_ble_eq_true rfl) (fun K h hr => ?_)
  refine r_lv (lv' := [(0, .ref (ad 86))]) rfl ?_
  unfold f_Mo_readMatter at hf
  refine r_rS h (fun hs0 => ?_)
  refine r_bipush h dX12_readMatter_0 (by decide) ?_
  refine r_aload_n h dX12_readMatter_2 rfl 0 rfl ?_
  refine g_X12_286 h dX12_readMatter_3 ht rC_86 ?_
  refine r_imul h dX12_readMatter_6 ?_
  refine r_aload_n h dX12_readMatter_7 rfl 0 rfl ?_
  have hq1 := w_ref hw ht rC_86 (by decide) (k := 14) (by decide) rf_12_14
  refine g_X12_30 h dX12_readMatter_8 ht rC_86 hq1.1 ?_
  refine r_aload_n h dX12_readMatter_11 rfl 0 rfl ?_
  refine g_X12_286 h dX12_readMatter_12 ht rC_86 ?_
  obtain ⟨hi2, hf⟩ := oc_some hf
  refine r_iald h dX12_readMatter_15 hq1.2 rC_92 (hs0.1 _ _) (N := 2) (by rw [rN_92]; rfl) (j := (gi s0 86 41).toNat) rfl hi2 ?_
  refine r_iadd h dX12_readMatter_16 ?_
  refine r_ol hf (rI_iw _) (fun x3_ rx3_ hf => ?_)
  refine r_istore_n h [(1, .int (vI x3_)), (0, .ref (ad 86))] dX12_readMatter_17 rfl (by decide) rfl ?_
  refine r_aload_n h dX12_readMatter_18 rfl 1 rfl ?_
  have hq4 := w_ref hw ht rC_86 (by decide) (k := 34) (by decide) rf_12_34
  refine g_X12_92 h dX12_readMatter_19 ht rC_86 hq4.1 ?_
  refine r_iload_n h dX12_readMatter_22 rfl 0 rfl ?_
  refine r_aload_n h dX12_readMatter_23 rfl 1 rfl ?_
  refine r_aload_n h dX12_readMatter_24 rfl 1 rfl ?_
  refine r_aload_n h dX12_readMatter_25 rfl 1 rfl ?_
  have hq5 := w_ref hw ht rC_86 (by decide) (k := 34) (by decide) rf_12_34
  refine g_X12_92 h dX12_readMatter_26 ht rC_86 hq5.1 ?_
  refine r_bipush h dX12_readMatter_29 (by decide) ?_
  refine r_aload_n h dX12_readMatter_31 rfl 1 rfl ?_
  refine g_X12_286 h dX12_readMatter_32 ht rC_86 ?_
  refine r_imul h dX12_readMatter_35 ?_
  refine r_aload_n h dX12_readMatter_36 rfl 1 rfl ?_
  have hq6 := w_ref hw ht rC_86 (by decide) (k := 14) (by decide) rf_12_14
  refine g_X12_30 h dX12_readMatter_37 ht rC_86 hq6.1 ?_
  refine r_aload_n h dX12_readMatter_40 rfl 1 rfl ?_
  refine g_X12_286 h dX12_readMatter_41 ht rC_86 ?_
  obtain ⟨hi7, hf⟩ := oc_some hf
  refine r_iald h dX12_readMatter_44 hq6.2 rC_92 (hs0.1 _ _) (N := 2) (by rw [rN_92]; rfl) (j := (gi s0 86 41).toNat) rfl hi7 ?_
  obtain ⟨r8, s8, hq8, hf⟩ := ob_some hf
  refine r_callV1 h [.ref (ad 112), .int (vI (iw (6 * (gi s0 86 41)))), .int (vI (gi s0 92 ((gi s0 86 41).toNat)))] dX12_readMatter_45 (fun hs => m_Mo_here hw ht hq5.2 rC_112 (rI_iw _) (hs0.1 _ _) hs hq8) ml_X12_323 cv_Mo_here rfl (co := 12) rfl (by decide) ht rC_86 ⟨rfl, rfl⟩ ⟨Nat.le_of_ble_eq_true rfl, Nat.le_of_ble_eq_true rfl⟩ ⟨Nat.le_of_ble_eq_true rfl, Nat.le_of_ble_eq_true rfl⟩ (Nat.le_of_ble_eq_true rfl) rfl (fun hr8 hs8 => ?_)
  obtain ⟨r9, s9, hq9, hf⟩ := ob_some hf
  refine r_callV3 h [.int (vI r8)] dX12_readMatter_48 (fun hs => m_Mo_fresh hw ht hr8 hs hq9) ml_X12_327 cv_Mo_fresh rfl (co := 12) rfl (by decide) ht rC_86 ⟨rfl, rfl⟩ ⟨Nat.le_of_ble_eq_true rfl, Nat.le_of_ble_eq_true rfl⟩ ⟨Nat.le_of_ble_eq_true rfl, Nat.le_of_ble_eq_true rfl⟩ (Nat.le_of_ble_eq_true rfl) rfl (fun hr9 hs9 => ?_)
  obtain ⟨hi10, hf⟩ := oc_some hf
  refine r_last h dX12_readMatter_51 hq4.2 rC_112 rx3_ (N := 12) (by rw [rN_112]; rfl) (j := (x3_).toNat) rfl hi10 hr9 ?_
  refine r_os hf (fun s11 hf => ?_)
  refine r_rS h (fun hs11 => ?_)
  refine r_aload_n h dX12_readMatter_52 rfl 1 rfl ?_
  have hq12 := w_ref hw ht rC_86 (by decide) (k := 25) (by decide) rf_12_25
  refine g_X12_63 h dX12_readMatter_53 ht rC_86 hq12.1 ?_
  refine r_iload_n h dX12_readMatter_56 rfl 0 rfl ?_
  refine r_aload_n h dX12_readMatter_57 rfl 1 rfl ?_
  refine r_ldc2 (x := 422877228659) h dX12_readMatter_58 (gt_in7 134 rfl rfl) rfl ?_
  refine r_iconst h dX12_readMatter_61 ?_
  refine r_bipush h dX12_readMatter_62 (by decide) ?_
  obtain ⟨r13, s13, hq13, hf⟩ := ob_some hf
  refine r_callV1 h [.long (vJ 422877228659), .int (vI 1), .int (vI 99)] dX12_readMatter_64 (fun hs => m_Mo_after hw ht (rJc rfl) (rIc rfl) (rIc rfl) hs hq13) ml_X12_331 cv_Mo_after rfl (co := 12) rfl (by decide) ht rC_86 ⟨rfl, rfl⟩ ⟨Nat.le_of_ble_eq_true rfl, Nat.le_of_ble_eq_true rfl⟩ ⟨Nat.le_of_ble_eq_true rfl, Nat.le_of_ble_eq_true rfl⟩ (Nat.le_of_ble_eq_true rfl) rfl (fun hr13 hs13 => ?_)
  obtain ⟨hi14, hf⟩ := oc_some hf
  refine r_iast h dX12_readMatter_67 hq12.2 rC_103 rx3_ (N := 12) (by rw [rN_103]; rfl) (j := (x3_).toNat) rfl hi14 hr13 ?_
  refine r_os hf (fun s15 hf => ?_)
  refine r_rS h (fun hs15 => ?_)
  refine r_aload_n h dX12_readMatter_68 rfl 1 rfl ?_
  refine r_aload_n h dX12_readMatter_69 rfl 1 rfl ?_
  refine r_ldc2 (x := 28518) h dX12_readMatter_70 (gt_in7 135 rfl rfl) rfl ?_
  obtain ⟨r16, s16, hq16, hf⟩ := ob_some hf
  refine r_callV2 h [.long (vJ 28518)] dX12_readMatter_73 (fun hs => m_Mo_isWord hw ht (rJc rfl) hs hq16) ml_X12_275 cv_Mo_isWord rfl (co := 12) rfl (by decide) ht rC_86 ⟨rfl, rfl⟩ ⟨Nat.le_of_ble_eq_true rfl, Nat.le_of_ble_eq_true rfl⟩ ⟨Nat.le_of_ble_eq_true rfl, Nat.le_of_ble_eq_true rfl⟩ (Nat.le_of_ble_eq_true rfl) rfl (fun hr16 hs16 => ?_)
  obtain ⟨r17, s17, hq17, hf⟩ := ob_some hf
  refine r_callV0 h [.int (vI r16)] dX12_readMatter_76 (fun hs => m_Mo_must hw ht hr16 hs hq17) ml_X12_278 cv_Mo_must rfl (co := 12) rfl (by decide) ht rC_86 ⟨rfl, rfl⟩ ⟨Nat.le_of_ble_eq_true rfl, Nat.le_of_ble_eq_true rfl⟩ ⟨Nat.le_of_ble_eq_true rfl, Nat.le_of_ble_eq_true rfl⟩ (Nat.le_of_ble_eq_true rfl) rfl (fun hr17 hs17 => ?_)
  refine r_aload_n h dX12_readMatter_79 rfl 1 rfl ?_
  have hq18 := w_ref hw ht rC_86 (by decide) (k := 26) (by decide) rf_12_26
  refine g_X12_66 h dX12_readMatter_80 ht rC_86 hq18.1 ?_
  refine r_iload_n h dX12_readMatter_83 rfl 0 rfl ?_
  refine r_iconst h dX12_readMatter_84 ?_
  obtain ⟨hi19, hf⟩ := oc_some hf
  refine r_iast h dX12_readMatter_85 hq18.2 rC_104 rx3_ (N := 12) (by rw [rN_104]; rfl) (j := (x3_).toNat) rfl hi19 (rIc rfl) ?_
  refine r_os hf (fun s20 hf => ?_)
  refine r_rS h (fun hs20 => ?_)
  refine r_sub h [1, 0] rfl ?_
  exact b_Mo_readMatter_86 h hr hw ht rx3_ FU s20 hf
set_option maxRecDepth 20000 in
theorem m_Mo_pushE {l : Launch} {D : va_G} {cs : Nat → ClassId} {aS aV : Nat} {A : Nat → Prop} {ad : Nat → Nat} {n : Nat} {nl : Nat → Nat → Bool} {out : Int × SS} (hw : w_WH n nl) (ht : 86 < n) {a1 : Int} (ra1 : rI a1) {a2 : Int} (ra2 : rI a2) {s0 : SS} (hs0 : rS s0) (hf : f_Mo_pushE a1 a2 s0 = some out) : w_MC l D cs aS aV A yX12_pushE cX12_pushE 3 0 rm_Mo_pushE ad n nl [.ref (ad 86), .int (vI a1), .int (vI a2)] s0 (w_Po ad n nl out) := by
  refine w_MC_of (by decide +kernel) (by decide) hs0 (Nat.le_of_ble_eq_true rfl) (fun K h hr => ?_)
  refine r_lv (lv' := [(0, .ref (ad 86)), (1, .int (vI a1)), (2, .int (vI a2))]) rfl ?_
  unfold f_Mo_pushE at hf
  refine r_rS h (fun hs0 => ?_)
  refine r_aload_n h dX12_pushE_0 rfl 0 rfl ?_
  have hq1 := w_ref hw ht rC_86 (by decide) (k := 37) (by decide) rf_12_37
  refine g_X12_101 h dX12_pushE_1 ht rC_86 hq1.1 ?_
  refine r_aload_n h dX12_pushE_4 rfl 0 rfl ?_
  refine g_X12_348 h dX12_pushE_5 ht rC_86 ?_
  refine r_iload_n h dX12_pushE_8 rfl 1 rfl ?_
  obtain ⟨hi2, hf⟩ := oc_some hf
  refine r_iast h dX12_pushE_9 hq1.2 rC_115 (hs0.1 _ _) (N := 90) (by rw [rN_115]; rfl) (j := (gi s0 86 44).toNat) rfl hi2 ra1 ?_
  refine r_os hf (fun s3 hf => ?_)
  refine r_rS h (fun hs3 => ?_)
  refine r_aload_n h dX12_pushE_10 rfl 0 rfl ?_
  have hq4 := w_ref hw ht rC_86 (by decide) (k := 38) (by decide) rf_12_38
  refine g_X12_104 h dX12_pushE_11 ht rC_86 hq4.1 ?_
  refine r_aload_n h dX12_pushE_14 rfl 0 rfl ?_
  refine g_X12_348 h dX12_pushE_15 ht rC_86 ?_
  refine r_iload_n h dX12_pushE_18 rfl 2 rfl ?_
  obtain ⟨hi5, hf⟩ := oc_some hf
  refine r_iast h dX12_pushE_19 hq4.2 rC_116 (hs3.1 _ _) (N := 90) (by rw [rN_116]; rfl) (j := (gi s3 86 44).toNat) rfl hi5 ra2 ?_
  refine r_os hf (fun s6 hf => ?_)
  refine r_rS h (fun hs6 => ?_)
  refine r_aload_n h dX12_pushE_20 rfl 0 rfl ?_
  refine r_dup h dX12_pushE_21 rfl ?_
  refine g_X12_348 h dX12_pushE_22 ht rC_86 ?_
  refine r_iconst h dX12_pushE_25 ?_
  refine r_iadd h dX12_pushE_26 ?_
  refine p_X12_348 h dX12_pushE_27 ht rC_86 (rI_iw _) ?_
  refine r_os hf (fun s7 hf => ?_)
  refine r_rS h (fun hs7 => ?_)
  exact r_ret0 (x := 0) hr dX12_pushE_30 hf
set_option maxRecDepth 20000 in
theorem m_Mo_wordHere {l : Launch} {D : va_G} {cs : Nat → ClassId} {aS aV : Nat} {A : Nat → Prop} {ad : Nat → Nat} {n : Nat} {nl : Nat → Nat → Bool} {out : Int × SS} (hw : w_WH n nl) (ht : 86 < n) {s0 : SS} (hs0 : rS s0) (hf : f_Mo_wordHere s0 = some out) : w_MC l D cs aS aV A yX12_wordHere cX12_wordHere 1 1 rm_Mo_wordHere ad n nl [.ref (ad 86)] s0 (w_Po ad n nl out) := by
  refine w_MC_of (by decide +kernel) (by decide) hs0 (Nat.le_of_ble_eq_true rfl) (fun K h hr => ?_)
  refine r_lv (lv' := [(0, .ref (ad 86))]) rfl ?_
  unfold f_Mo_wordHere at hf
  refine r_rS h (fun hs0 => ?_)
  refine r_aload_n h dX12_wordHere_0 rfl 0 rfl ?_
  refine r_ldc2 (x := 1751474548) h dX12_wordHere_1 (gt_in7 136 rfl rfl) rfl ?_
  obtain ⟨r1, s1, hq1, hf⟩ := ob_some hf
  refine r_callV2 h [.long (vJ 1751474548)] dX12_wordHere_4 (fun hs => m_Mo_isWord hw ht (rJc rfl) hs hq1) ml_X12_275 cv_Mo_isWord rfl (co := 12) rfl (by decide) ht rC_86 ⟨rfl, rfl⟩ ⟨Nat.le_of_ble_eq_true rfl, Nat.le_of_ble_eq_true rfl⟩ ⟨Nat.le_of_ble_eq_true rfl, Nat.le_of_ble_eq_true rfl⟩ (Nat.le_of_ble_eq_true rfl) rfl (fun hr1 hs1 => ?_)
  refine r_if_eq (tgt := 13) h dX12_wordHere_7 (by decide) (rI_b hr1) (fun hc2 => ?_) (fun hc2 => ?_)
  · have hf := ite_t hc2 hf
    refine r_aload_n h dX12_wordHere_13 rfl 0 rfl ?_
    refine r_ldc2 (x := 444301141350) h dX12_wordHere_14 (gt_in7 139 rfl rfl) rfl ?_
    obtain ⟨r3, s3, hq3, hf⟩ := ob_some hf
    refine r_callV2 h [.long (vJ 444301141350)] dX12_wordHere_17 (fun hs => m_Mo_isWord hw ht (rJc rfl) hs hq3) ml_X12_275 cv_Mo_isWord rfl (co := 12) rfl (by decide) ht rC_86 ⟨rfl, rfl⟩ ⟨Nat.le_of_ble_eq_true rfl, Nat.le_of_ble_eq_true rfl⟩ ⟨Nat.le_of_ble_eq_true rfl, Nat.le_of_ble_eq_true rfl⟩ (Nat.le_of_ble_eq_true rfl) rfl (fun hr3 hs3 => ?_)
    refine r_if_eq (tgt := 26) h dX12_wordHere_20 (by decide) (rI_b hr3) (fun hc4 => ?_) (fun hc4 => ?_)
    · have hf := ite_t hc4 hf
      refine r_aload_n h dX12_wordHere_26 rfl 0 rfl ?_
      refine r_ldc2 (x := 8319403477078864494) h dX12_wordHere_27 (gt_in7 131 rfl rfl) rfl ?_
      obtain ⟨r5, s5, hq5, hf⟩ := ob_some hf
      refine r_callV2 h [.long (vJ 8319403477078864494)] dX12_wordHere_30 (fun hs => m_Mo_isWord hw ht (rJc rfl) hs hq5) ml_X12_275 cv_Mo_isWord rfl (co := 12) rfl (by decide) ht rC_86 ⟨rfl, rfl⟩ ⟨Nat.le_of_ble_eq_true rfl, Nat.le_of_ble_eq_true rfl⟩ ⟨Nat.le_of_ble_eq_true rfl, Nat.le_of_ble_eq_true rfl⟩ (Nat.le_of_ble_eq_true rfl) rfl (fun hr5 hs5 => ?_)
      refine r_if_eq (tgt := 39) h dX12_wordHere_33 (by decide) (rI_b hr5) (fun hc6 => ?_) (fun hc6 => ?_)
      · have hf := ite_t hc6 hf
        refine r_aload_n h dX12_wordHere_39 rfl 0 rfl ?_
        refine r_ldc2 (x := 495673373300) h dX12_wordHere_40 (gt_in7 132 rfl rfl) rfl ?_
        obtain ⟨r7, s7, hq7, hf⟩ := ob_some hf
        refine r_callV2 h [.long (vJ 495673373300)] dX12_wordHere_43 (fun hs => m_Mo_isWord hw ht (rJc rfl) hs hq7) ml_X12_275 cv_Mo_isWord rfl (co := 12) rfl (by decide) ht rC_86 ⟨rfl, rfl⟩ ⟨Nat.le_of_ble_eq_true rfl, Nat.le_of_ble_eq_true rfl⟩ ⟨Nat.le_of_ble_eq_true rfl, Nat.le_of_ble_eq_true rfl⟩ (Nat.le_of_ble_eq_true rfl) rfl (fun hr7 hs7 => ?_)
        refine r_if_eq (tgt := 52) h dX12_wordHere_46 (by decide) (rI_b hr7) (fun hc8 => ?_) (fun hc8 => ?_)
        · have hf := ite_t hc8 hf
          refine r_aload_n h dX12_wordHere_52 rfl 0 rfl ?_
          refine r_ldc2 (x := 1835625573) h dX12_wordHere_53 (gt_in7 140 rfl rfl) rfl ?_
          obtain ⟨r9, s9, hq9, hf⟩ := ob_some hf
          refine r_callV2 h [.long (vJ 1835625573)] dX12_wordHere_56 (fun hs => m_Mo_isWord hw ht (rJc rfl) hs hq9) ml_X12_275 cv_Mo_isWord rfl (co := 12) rfl (by decide) ht rC_86 ⟨rfl, rfl⟩ ⟨Nat.le_of_ble_eq_true rfl, Nat.le_of_ble_eq_true rfl⟩ ⟨Nat.le_of_ble_eq_true rfl, Nat.le_of_ble_eq_true rfl⟩ (Nat.le_of_ble_eq_true rfl) rfl (fun hr9 hs9 => ?_)
          refine r_if_eq (tgt := 65) h dX12_wordHere_59 (by decide) (rI_b hr9) (fun hc10 => ?_) (fun hc10 => ?_)
          · have hf := ite_t hc10 hf
            refine r_aload_n h dX12_wordHere_65 rfl 0 rfl ?_
            refine r_ldc2 (x := 1818584692) h dX12_wordHere_66 (gt_in7 141 rfl rfl) rfl ?_
            obtain ⟨r11, s11, hq11, hf⟩ := ob_some hf
            refine r_callV2 h [.long (vJ 1818584692)] dX12_wordHere_69 (fun hs => m_Mo_isWord hw ht (rJc rfl) hs hq11) ml_X12_275 cv_Mo_isWord rfl (co := 12) rfl (by decide) ht rC_86 ⟨rfl, rfl⟩ ⟨Nat.le_of_ble_eq_true rfl, Nat.le_of_ble_eq_true rfl⟩ ⟨Nat.le_of_ble_eq_true rfl, Nat.le_of_ble_eq_true rfl⟩ (Nat.le_of_ble_eq_true rfl) rfl (fun hr11 hs11 => ?_)
            refine r_if_eq (tgt := 80) h dX12_wordHere_72 (by decide) (rI_b hr11) (fun hc12 => ?_) (fun hc12 => ?_)
            · have hf := ite_t hc12 hf
              refine r_iconst h dX12_wordHere_80 ?_
              exact r_ret1 hr dX12_wordHere_81 (rIc rfl) hf
            · have hf := ite_f hc12 hf
              refine r_bipush h dX12_wordHere_75 (by decide) ?_
              refine r_goto (tgt := 81) h dX12_wordHere_77 (by decide) ?_
              exact r_ret1 hr dX12_wordHere_81 (rIc rfl) hf
          · have hf := ite_f hc10 hf
            refine r_bipush h dX12_wordHere_62 (by decide) ?_
            exact r_ret1 hr dX12_wordHere_64 (rIc rfl) hf
        · have hf := ite_f hc8 hf
          refine r_bipush h dX12_wordHere_49 (by decide) ?_
          exact r_ret1 hr dX12_wordHere_51 (rIc rfl) hf
      · have hf := ite_f hc6 hf
        refine r_bipush h dX12_wordHere_36 (by decide) ?_
        exact r_ret1 hr dX12_wordHere_38 (rIc rfl) hf
    · have hf := ite_f hc4 hf
      refine r_bipush h dX12_wordHere_23 (by decide) ?_
      exact r_ret1 hr dX12_wordHere_25 (rIc rfl) hf
  · have hf := ite_f hc2 hf
    refine r_bipush h dX12_wordHere_10 (by decide) ?_
    exact r_ret1 hr dX12_wordHere_12 (rIc rfl) hf
set_option maxRecDepth 20000 in
theorem m_Mo_emit {l : Launch} {D : va_G} {cs : Nat → ClassId} {aS aV : Nat} {A : Nat → Prop} {ad : Nat → Nat} {n : Nat} {nl : Nat → Nat → Bool} {out : Int × SS} (hw : w_WH n nl) (ht : 86 < n) {a1 : Int} (ra1 : rI a1) {a2 : Int} (ra2 : rI a2) {s0 : SS} (hs0 : rS s0) (hf : f_Mo_emit a1 a2 s0 = some out) : w_MC l D cs aS aV A yX12_emit cX12_emit 3 0 rm_Mo_emit ad n nl [.ref (ad 86), .int (vI a1), .int (vI a2)] s0 (w_Po ad n nl out) := by
  refine w_MC_of (by decide +kernel) (by decide) hs0 (Nat.le_of_ble_eq_true rfl) (fun K h hr => ?_)
  refine r_lv (lv' := [(0, .ref (ad 86)), (1, .int (vI a1)), (2, .int (vI a2))]) rfl ?_
  unfold f_Mo_emit at hf
  refine r_rS h (fun hs0 => ?_)
  refine r_aload_n h dX12_emit_0 rfl 0 rfl ?_
  have hq1 := w_ref hw ht rC_86 (by decide) (k := 35) (by decide) rf_12_35
  refine g_X12_95 h dX12_emit_1 ht rC_86 hq1.1 ?_
  refine r_aload_n h dX12_emit_4 rfl 0 rfl ?_
  refine g_X12_289 h dX12_emit_5 ht rC_86 ?_
  refine r_iload_n h dX12_emit_8 rfl 1 rfl ?_
  obtain ⟨hi2, hf⟩ := oc_some hf
  refine r_iast h dX12_emit_9 hq1.2 rC_113 (hs0.1 _ _) (N := 1120) (by rw [rN_113]; rfl) (j := (gi s0 86 42).toNat) rfl hi2 ra1 ?_
  refine r_os hf (fun s3 hf => ?_)
  refine r_rS h (fun hs3 => ?_)
  refine r_aload_n h dX12_emit_10 rfl 0 rfl ?_
  have hq4 := w_ref hw ht rC_86 (by decide) (k := 36) (by decide) rf_12_36
  refine g_X12_98 h dX12_emit_11 ht rC_86 hq4.1 ?_
  refine r_aload_n h dX12_emit_14 rfl 0 rfl ?_
  refine g_X12_289 h dX12_emit_15 ht rC_86 ?_
  refine r_iload_n h dX12_emit_18 rfl 2 rfl ?_
  obtain ⟨hi5, hf⟩ := oc_some hf
  refine r_iast h dX12_emit_19 hq4.2 rC_114 (hs3.1 _ _) (N := 1120) (by rw [rN_114]; rfl) (j := (gi s3 86 42).toNat) rfl hi5 ra2 ?_
  refine r_os hf (fun s6 hf => ?_)
  refine r_rS h (fun hs6 => ?_)
  refine r_aload_n h dX12_emit_20 rfl 0 rfl ?_
  refine r_dup h dX12_emit_21 rfl ?_
  refine g_X12_289 h dX12_emit_22 ht rC_86 ?_
  refine r_iconst h dX12_emit_25 ?_
  refine r_iadd h dX12_emit_26 ?_
  refine p_X12_289 h dX12_emit_27 ht rC_86 (rI_iw _) ?_
  refine r_os hf (fun s7 hf => ?_)
  refine r_rS h (fun hs7 => ?_)
  exact r_ret0 (x := 0) hr dX12_emit_30 hf
set_option maxRecDepth 20000 in
theorem b_Mo_unit_233 {l : Launch} {D : va_G} {cs : Nat → ClassId} {aS aV : Nat} {A : Nat → Prop} {K : KT} {ad : Nat → Nat} {n : Nat} {nl : Nat → Nat → Bool} {out : Int × SS} (h : w_Cl l rm_Mo_unit D cs aS aV A cX12_unit 7 RX12 "unit" K) (hr : w_Rt 2 cX12_unit 0 0 (w_Po ad n nl out) K) (hw : w_WH n nl) (ht : 86 < n) (z1 : Int) (s0 : SS) (rz1 : rI z1) (hf : j_Mo_unit_233 z1 s0 = some out) : K ad n nl 0 0 233 [(0, .ref (ad 86))] [.int (vI z1), .ref (ad 86)] s0 := by
  unfold j_Mo_unit_233 at hf
  refine r_rS h (fun hs0 => ?_)
  refine r_bipush h dX12_unit_233 (by decide) ?_
  obtain ⟨r1, s1, hq1, hf⟩ := ob_some hf
  refine r_callV0 h [.int (vI z1), .int (vI 126)] dX12_unit_235 (fun hs => m_Mo_pushE hw ht rz1 (rIc rfl) hs hq1) ml_X12_354 cv_Mo_pushE rfl (co := 12) rfl (by decide) ht rC_86 ⟨rfl, rfl⟩ ⟨Nat.le_of_ble_eq_true rfl, Nat.le_of_ble_eq_true rfl⟩ ⟨Nat.le_of_ble_eq_true rfl, Nat.le_of_ble_eq_true rfl⟩ (Nat.le_of_ble_eq_true rfl) rfl (fun hr1 hs1 => ?_)
  refine r_aload_n h dX12_unit_238 rfl 0 rfl ?_
  refine r_dup h dX12_unit_239 rfl ?_
  refine g_X12_351 h dX12_unit_240 ht rC_86 ?_
  refine r_iconst h dX12_unit_243 ?_
  refine r_iadd h dX12_unit_244 ?_
  refine p_X12_351 h dX12_unit_245 ht rC_86 (rI_iw _) ?_
  refine r_os hf (fun s2 hf => ?_)
  refine r_rS h (fun hs2 => ?_)
  refine r_iconst h dX12_unit_248 ?_
  exact r_ret2 hr dX12_unit_249 (Or.inr rfl) hf
set_option maxRecDepth 20000 in
theorem b_Mo_unit_222 {l : Launch} {D : va_G} {cs : Nat → ClassId} {aS aV : Nat} {A : Nat → Prop} {K : KT} {ad : Nat → Nat} {n : Nat} {nl : Nat → Nat → Bool} {out : Int × SS} (h : w_Cl l rm_Mo_unit D cs aS aV A cX12_unit 7 RX12 "unit" K) (hr : w_Rt 2 cX12_unit 0 0 (w_Po ad n nl out) K) (hw : w_WH n nl) (ht : 86 < n) (x2 : Int) (s0 : SS) (rx2 : rI x2) (hf : j_Mo_unit_222 x2 s0 = some out) : K ad n nl 0 0 222 [(0, .ref (ad 86)), (2, .int (vI x2))] [] s0 := by
  unfold j_Mo_unit_222 at hf
  refine r_rS h (fun hs0 => ?_)
  refine r_aload_n h dX12_unit_222 rfl 0 rfl ?_
  refine r_iload_n h dX12_unit_223 rfl 1 rfl ?_
  refine r_if_eq (tgt := 231) h dX12_unit_224 (by decide) rx2 (fun hc1 => ?_) (fun hc1 => ?_)
  · have hf := ite_t hc1 hf
    refine r_bipush h dX12_unit_231 (by decide) ?_
    refine r_sub h [0] rfl ?_
    exact b_Mo_unit_233 h hr hw ht 7 s0 (rIc rfl) hf
  · have hf := ite_f hc1 hf
    refine r_iconst h dX12_unit_227 ?_
    refine r_goto (tgt := 233) h dX12_unit_228 (by decide) ?_
    refine r_sub h [0] rfl ?_
    exact b_Mo_unit_233 h hr hw ht 3 s0 (rIc rfl) hf
set_option maxRecDepth 20000 in
theorem b_Mo_unit_263 {l : Launch} {D : va_G} {cs : Nat → ClassId} {aS aV : Nat} {A : Nat → Prop} {K : KT} {ad : Nat → Nat} {n : Nat} {nl : Nat → Nat → Bool} {out : Int × SS} (h : w_Cl l rm_Mo_unit D cs aS aV A cX12_unit 7 RX12 "unit" K) (hr : w_Rt 2 cX12_unit 0 0 (w_Po ad n nl out) K) (hw : w_WH n nl) (ht : 86 < n) (x6 : Int) (z1 : Int) (s0 : SS) (rx6 : rI x6) (rz1 : rI z1) (hf : j_Mo_unit_263 x6 z1 s0 = some out) : K ad n nl 0 0 263 [(6, .int (vI x6))] [.int (vI z1), .ref (ad 86)] s0 := by
  unfold j_Mo_unit_263 at hf
  refine r_rS h (fun hs0 => ?_)
  refine r_iload h dX12_unit_263 0 rfl ?_
  obtain ⟨r1, s1, hq1, hf⟩ := ob_some hf
  refine r_callV0 h [.int (vI z1), .int (vI x6)] dX12_unit_265 (fun hs => m_Mo_emit hw ht rz1 rx6 hs hq1) ml_X12_366 cv_Mo_emit rfl (co := 12) rfl (by decide) ht rC_86 ⟨rfl, rfl⟩ ⟨Nat.le_of_ble_eq_true rfl, Nat.le_of_ble_eq_true rfl⟩ ⟨Nat.le_of_ble_eq_true rfl, Nat.le_of_ble_eq_true rfl⟩ (Nat.le_of_ble_eq_true rfl) rfl (fun hr1 hs1 => ?_)
  refine r_iconst h dX12_unit_268 ?_
  exact r_ret2 hr dX12_unit_269 (Or.inl rfl) hf
set_option maxRecDepth 20000 in
theorem b_Mo_unit_208 {l : Launch} {D : va_G} {cs : Nat → ClassId} {aS aV : Nat} {A : Nat → Prop} {K : KT} {ad : Nat → Nat} {n : Nat} {nl : Nat → Nat → Bool} {out : Int × SS} (h : w_Cl l rm_Mo_unit D cs aS aV A cX12_unit 7 RX12 "unit" K) (hr : w_Rt 2 cX12_unit 0 0 (w_Po ad n nl out) K) (hw : w_WH n nl) (ht : 86 < n) (x2 : Int) (x3 : Int) (x4 : Int) (z0 : Int) (s0 : SS) (rx2 : rI x2) (rx3 : rI x3) (rx4 : rI x4) (rz0 : rI z0) (hf : j_Mo_unit_208 x2 x3 x4 z0 s0 = some out) : K ad n nl 0 0 208 [(0, .ref (ad 86)), (2, .int (vI x2)), (3, .int (vI x3)), (4, .int (vI x4))] [.int (vI z0)] s0 := by
  unfold j_Mo_unit_208 at hf
  refine r_rS h (fun hs0 => ?_)
  refine r_istore h [(6, .int (vI z0)), (0, .ref (ad 86)), (2, .int (vI x2)), (3, .int (vI x3)), (4, .int (vI x4))] dX12_unit_208 (by decide) rfl ?_
  refine r_aload_n h dX12_unit_210 rfl 1 rfl ?_
  obtain ⟨r1, s1, hq1, hf⟩ := ob_some hf
  refine r_callV0 h [] dX12_unit_211 (fun hs => m_Mo_goOn hw ht hs hq1) ml_X12_269 cv_Mo_goOn rfl (co := 12) rfl (by decide) ht rC_86 ⟨rfl, rfl⟩ ⟨Nat.le_of_ble_eq_true rfl, Nat.le_of_ble_eq_true rfl⟩ ⟨Nat.le_of_ble_eq_true rfl, Nat.le_of_ble_eq_true rfl⟩ (Nat.le_of_ble_eq_true rfl) rfl (fun hr1 hs1 => ?_)
  refine r_iload_n h dX12_unit_214 rfl 2 rfl ?_
  refine r_if_ne (tgt := 222) h dX12_unit_215 (by decide) rx2 (fun hc2 => ?_) (fun hc2 => ?_)
  · have hf := ite_f hc2 hf
    refine r_sub h [1, 2] rfl ?_
    exact b_Mo_unit_222 h hr hw ht x2 s1 rx2 hf
  · have hf := ite_nf hc2 hf
    refine r_iload_n h dX12_unit_218 rfl 3 rfl ?_
    refine r_if_eq (tgt := 250) h dX12_unit_219 (by decide) rx3 (fun hc3 => ?_) (fun hc3 => ?_)
    · have hf := ite_t hc3 hf
      refine r_aload_n h dX12_unit_250 rfl 1 rfl ?_
      refine r_iload h dX12_unit_251 4 rfl ?_
      refine r_if_ne (tgt := 261) h dX12_unit_253 (by decide) rx4 (fun hc4 => ?_) (fun hc4 => ?_)
      · have hf := ite_f hc4 hf
        refine r_iload h dX12_unit_261 4 rfl ?_
        refine r_sub h [0] rfl ?_
        exact b_Mo_unit_263 h hr hw ht z0 x4 s1 rz0 rx4 hf
      · have hf := ite_nf hc4 hf
        refine r_bipush h dX12_unit_256 (by decide) ?_
        refine r_goto (tgt := 263) h dX12_unit_258 (by decide) ?_
        refine r_sub h [0] rfl ?_
        exact b_Mo_unit_263 h hr hw ht z0 110 s1 rz0 (rIc rfl) hf
    · have hf := ite_f hc3 hf
      refine r_sub h [1, 2] rfl ?_
      exact b_Mo_unit_222 h hr hw ht x2 s1 rx2 hf
set_option maxRecDepth 20000 in
theorem b_Mo_unit_191 {l : Launch} {D : va_G} {cs : Nat → ClassId} {aS aV : Nat} {A : Nat → Prop} {K : KT} {ad : Nat → Nat} {n : Nat} {nl : Nat → Nat → Bool} {out : Int × SS} (h : w_Cl l rm_Mo_unit D cs aS aV A cX12_unit 7 RX12 "unit" K) (hr : w_Rt 2 cX12_unit 0 0 (w_Po ad n nl out) K) (hw : w_WH n nl) (ht : 86 < n) (x2 : Int) (x3 : Int) (x4 : Int) (z1 : Int) (z2 : Int) (s0 : SS) (rx2 : rI x2) (rx3 : rI x3) (rx4 : rI x4) (rz1 : rI z1) (rz2 : rI z2) (hf : j_Mo_unit_191 x2 x3 x4 z1 z2 s0 = some out) : K ad n nl 0 0 191 [(0, .ref (ad 86)), (2, .int (vI x2)), (3, .int (vI x3)), (4, .int (vI x4))] [.int (vI z2), .int (vI z1), .ref (ad 86)] s0 := by
  unfold j_Mo_unit_191 at hf
  refine r_rS h (fun hs0 => ?_)
  refine r_iadd h dX12_unit_191 ?_
  refine p_X12_342 h dX12_unit_192 ht rC_86 (rI_iw _) ?_
  refine r_os hf (fun s1 hf => ?_)
  refine r_rS h (fun hs1 => ?_)
  refine r_iload h dX12_unit_195 3 rfl ?_
  refine r_if_ne (tgt := 207) h dX12_unit_197 (by decide) rx4 (fun hc2 => ?_) (fun hc2 => ?_)
  · have hf := ite_f hc2 hf
    refine r_iconst h dX12_unit_207 ?_
    exact b_Mo_unit_208 h hr hw ht x2 x3 x4 0 s1 rx2 rx3 rx4 (rIc rfl) hf
  · have hf := ite_nf hc2 hf
    refine r_aload_n h dX12_unit_200 rfl 0 rfl ?_
    refine g_X12_255 h dX12_unit_201 ht rC_86 ?_
    refine r_goto (tgt := 208) h dX12_unit_204 (by decide) ?_
    exact b_Mo_unit_208 h hr hw ht x2 x3 x4 (gi s1 86 9) s1 rx2 rx3 rx4 (hs1.1 _ _) hf
set_option maxRecDepth 20000 in
theorem b_Mo_unit_175 {l : Launch} {D : va_G} {cs : Nat → ClassId} {aS aV : Nat} {A : Nat → Prop} {K : KT} {ad : Nat → Nat} {n : Nat} {nl : Nat → Nat → Bool} {out : Int × SS} (h : w_Cl l rm_Mo_unit D cs aS aV A cX12_unit 7 RX12 "unit" K) (hr : w_Rt 2 cX12_unit 0 0 (w_Po ad n nl out) K) (hw : w_WH n nl) (ht : 86 < n) (x2 : Int) (x3 : Int) (x4 : Int) (z1 : Int) (z2 : Int) (z3 : Int) (s0 : SS) (rx2 : rI x2) (rx3 : rI x3) (rx4 : rI x4) (rz1 : rI z1) (rz2 : rI z2) (rz3 : rI z3) (hf : j_Mo_unit_175 x2 x3 x4 z1 z2 z3 s0 = some out) : K ad n nl 0 0 175 [(0, .ref (ad 86)), (2, .int (vI x2)), (3, .int (vI x3)), (4, .int (vI x4))] [.int (vI z3), .int (vI z2), .int (vI z1), .ref (ad 93)] s0 := by
  unfold j_Mo_unit_175 at hf
  have q93_0 := w_ref hw ht rC_86 (by decide) (k := 15) (by decide) rf_12_15
  refine r_rS h (fun hs0 => ?_)
  refine r_iadd h dX12_unit_175 ?_
  obtain ⟨hi1, hf⟩ := oc_some hf
  refine r_iast h dX12_unit_176 q93_0.2 rC_93 rz1 (N := 2) (by rw [rN_93]; rfl) (j := (z1).toNat) rfl hi1 (rI_iw _) ?_
  refine r_os hf (fun s2 hf => ?_)
  refine r_rS h (fun hs2 => ?_)
  refine r_aload_n h dX12_unit_177 rfl 0 rfl ?_
  refine r_dup h dX12_unit_178 rfl ?_
  refine g_X12_342 h dX12_unit_179 ht rC_86 ?_
  refine r_iload_n h dX12_unit_182 rfl 1 rfl ?_
  refine r_if_eq (tgt := 190) h dX12_unit_183 (by decide) rx2 (fun hc3 => ?_) (fun hc3 => ?_)
  · have hf := ite_t hc3 hf
    refine r_iconst h dX12_unit_190 ?_
    exact b_Mo_unit_191 h hr hw ht x2 x3 x4 (gi s2 86 45) 1 s2 rx2 rx3 rx4 (hs2.1 _ _) (rIc rfl) hf
  · have hf := ite_f hc3 hf
    refine r_iconst h dX12_unit_186 ?_
    refine r_goto (tgt := 191) h dX12_unit_187 (by decide) ?_
    exact b_Mo_unit_191 h hr hw ht x2 x3 x4 (gi s2 86 45) 0 s2 rx2 rx3 rx4 (hs2.1 _ _) (rIc rfl) hf
set_option maxRecDepth 20000 in
theorem b_Mo_unit_147 {l : Launch} {D : va_G} {cs : Nat → ClassId} {aS aV : Nat} {A : Nat → Prop} {K : KT} {ad : Nat → Nat} {n : Nat} {nl : Nat → Nat → Bool} {out : Int × SS} (h : w_Cl l rm_Mo_unit D cs aS aV A cX12_unit 7 RX12 "unit" K) (hr : w_Rt 2 cX12_unit 0 0 (w_Po ad n nl out) K) (hw : w_WH n nl) (ht : 86 < n) (x2 : Int) (x3 : Int) (x4 : Int) (s0 : SS) (rx2 : rI x2) (rx3 : rI x3) (rx4 : rI x4) (hf : j_Mo_unit_147 x2 x3 x4 s0 = some out) : K ad n nl 0 0 147 [(0, .ref (ad 86)), (2, .int (vI x2)), (3, .int (vI x3)), (4, .int (vI x4))] [] s0 := by
  unfold j_Mo_unit_147 at hf
  refine r_rS h (fun hs0 => ?_)
  refine r_aload_n h dX12_unit_147 rfl 0 rfl ?_
  obtain ⟨r1, s1, hq1, hf⟩ := ob_some hf
  refine r_callV2 h [] dX12_unit_148 (fun hs => m_Mo_isGood hw ht hs hq1) ml_X12_265 cv_Mo_isGood rfl (co := 12) rfl (by decide) ht rC_86 ⟨rfl, rfl⟩ ⟨Nat.le_of_ble_eq_true rfl, Nat.le_of_ble_eq_true rfl⟩ ⟨Nat.le_of_ble_eq_true rfl, Nat.le_of_ble_eq_true rfl⟩ (Nat.le_of_ble_eq_true rfl) rfl (fun hr1 hs1 => ?_)
  refine r_if_ne (tgt := 156) h dX12_unit_151 (by decide) (rI_b hr1) (fun hc2 => ?_) (fun hc2 => ?_)
  · have hf := ite_f hc2 hf
    refine r_aload_n h dX12_unit_156 rfl 0 rfl ?_
    have hq3 := w_ref hw ht rC_86 (by decide) (k := 15) (by decide) rf_12_15
    refine g_X12_33 h dX12_unit_157 ht rC_86 hq3.1 ?_
    refine r_aload_n h dX12_unit_160 rfl 0 rfl ?_
    refine g_X12_286 h dX12_unit_161 ht rC_86 ?_
    refine r_dup2a h dX12_unit_164 rfl rfl ?_
    obtain ⟨hi4, hf⟩ := oc_some hf
    refine r_iald h dX12_unit_165 hq3.2 rC_93 (hs1.1 _ _) (N := 2) (by rw [rN_93]; rfl) (j := (gi s1 86 41).toNat) rfl hi4 ?_
    refine r_iload_n h dX12_unit_166 rfl 1 rfl ?_
    refine r_if_eq (tgt := 174) h dX12_unit_167 (by decide) rx2 (fun hc5 => ?_) (fun hc5 => ?_)
    · have hf := ite_t hc5 hf
      refine r_iconst h dX12_unit_174 ?_
      exact b_Mo_unit_175 h hr hw ht x2 x3 x4 (gi s1 86 41) (gi s1 93 ((gi s1 86 41).toNat)) 1 s1 rx2 rx3 rx4 (hs1.1 _ _) (hs1.1 _ _) (rIc rfl) hf
    · have hf := ite_f hc5 hf
      refine r_iconst h dX12_unit_170 ?_
      refine r_goto (tgt := 175) h dX12_unit_171 (by decide) ?_
      exact b_Mo_unit_175 h hr hw ht x2 x3 x4 (gi s1 86 41) (gi s1 93 ((gi s1 86 41).toNat)) 0 s1 rx2 rx3 rx4 (hs1.1 _ _) (hs1.1 _ _) (rIc rfl) hf
  · have hf := ite_nf hc2 hf
    refine r_iconst h dX12_unit_154 ?_
    exact r_ret2 hr dX12_unit_155 (Or.inr rfl) hf
set_option maxRecDepth 20000 in
theorem b_Mo_unit_143 {l : Launch} {D : va_G} {cs : Nat → ClassId} {aS aV : Nat} {A : Nat → Prop} {K : KT} {ad : Nat → Nat} {n : Nat} {nl : Nat → Nat → Bool} {out : Int × SS} (h : w_Cl l rm_Mo_unit D cs aS aV A cX12_unit 7 RX12 "unit" K) (hr : w_Rt 2 cX12_unit 0 0 (w_Po ad n nl out) K) (hw : w_WH n nl) (ht : 86 < n) (x2 : Int) (x3 : Int) (x4 : Int) (s0 : SS) (rx2 : rI x2) (rx3 : rI x3) (rx4 : rI x4) (hf : j_Mo_unit_143 x2 x3 x4 s0 = some out) : K ad n nl 0 0 143 [(0, .ref (ad 86)), (2, .int (vI x2)), (3, .int (vI x3)), (4, .int (vI x4))] [] s0 := by
  unfold j_Mo_unit_143 at hf
  refine r_rS h (fun hs0 => ?_)
  refine r_aload_n h dX12_unit_143 rfl 0 rfl ?_
  obtain ⟨r1, s1, hq1, hf⟩ := ob_some hf
  refine r_callV0 h [] dX12_unit_144 (fun hs => m_Mo_misplaced hw ht hs hq1) ml_X12_272 cv_Mo_misplaced rfl (co := 12) rfl (by decide) ht rC_86 ⟨rfl, rfl⟩ ⟨Nat.le_of_ble_eq_true rfl, Nat.le_of_ble_eq_true rfl⟩ ⟨Nat.le_of_ble_eq_true rfl, Nat.le_of_ble_eq_true rfl⟩ (Nat.le_of_ble_eq_true rfl) rfl (fun hr1 hs1 => ?_)
  exact b_Mo_unit_147 h hr hw ht x2 x3 x4 s1 rx2 rx3 rx4 hf
set_option maxRecDepth 20000 in
theorem b_Mo_unit_134 {l : Launch} {D : va_G} {cs : Nat → ClassId} {aS aV : Nat} {A : Nat → Prop} {K : KT} {ad : Nat → Nat} {n : Nat} {nl : Nat → Nat → Bool} {out : Int × SS} (h : w_Cl l rm_Mo_unit D cs aS aV A cX12_unit 7 RX12 "unit" K) (hr : w_Rt 2 cX12_unit 0 0 (w_Po ad n nl out) K) (hw : w_WH n nl) (ht : 86 < n) (x2 : Int) (x3 : Int) (x4 : Int) (s0 : SS) (rx2 : rI x2) (rx3 : rI x3) (rx4 : rI x4) (hf : j_Mo_unit_134 x2 x3 x4 s0 = some out) : K ad n nl 0 0 134 [(0, .ref (ad 86)), (2, .int (vI x2)), (3, .int (vI x3)), (4, .int (vI x4))] [] s0 := by
  unfold j_Mo_unit_134 at hf
  refine r_rS h (fun hs0 => ?_)
  refine r_aload_n h dX12_unit_134 rfl 0 rfl ?_
  refine g_X12_351 h dX12_unit_135 ht rC_86 ?_
  refine r_bipush h dX12_unit_138 (by decide) ?_
  refine r_icmp_ne (tgt := 147) h dX12_unit_140 (by decide) (hs0.1 _ _) (rIc rfl) (fun hc1 => ?_) (fun hc1 => ?_)
  · have hf := ite_f hc1 hf
    exact b_Mo_unit_147 h hr hw ht x2 x3 x4 s0 rx2 rx3 rx4 hf
  · have hf := ite_nf hc1 hf
    exact b_Mo_unit_143 h hr hw ht x2 x3 x4 s0 rx2 rx3 rx4 hf
set_option maxRecDepth 20000 in
theorem b_Mo_unit_126 {l : Launch} {D : va_G} {cs : Nat → ClassId} {aS aV : Nat} {A : Nat → Prop} {K : KT} {ad : Nat → Nat} {n : Nat} {nl : Nat → Nat → Bool} {out : Int × SS} (h : w_Cl l rm_Mo_unit D cs aS aV A cX12_unit 7 RX12 "unit" K) (hr : w_Rt 2 cX12_unit 0 0 (w_Po ad n nl out) K) (hw : w_WH n nl) (ht : 86 < n) (x2 : Int) (x3 : Int) (x4 : Int) (s0 : SS) (rx2 : rI x2) (rx3 : rI x3) (rx4 : rI x4) (hf : j_Mo_unit_126 x2 x3 x4 s0 = some out) : K ad n nl 0 0 126 [(0, .ref (ad 86)), (2, .int (vI x2)), (3, .int (vI x3)), (4, .int (vI x4))] [] s0 := by
  unfold j_Mo_unit_126 at hf
  refine r_rS h (fun hs0 => ?_)
  refine r_iload_n h dX12_unit_126 rfl 1 rfl ?_
  refine r_if_ne (tgt := 134) h dX12_unit_127 (by decide) rx2 (fun hc1 => ?_) (fun hc1 => ?_)
  · have hf := ite_f hc1 hf
    exact b_Mo_unit_134 h hr hw ht x2 x3 x4 s0 rx2 rx3 rx4 hf
  · have hf := ite_nf hc1 hf
    refine r_iload_n h dX12_unit_130 rfl 2 rfl ?_
    refine r_if_eq (tgt := 147) h dX12_unit_131 (by decide) rx3 (fun hc2 => ?_) (fun hc2 => ?_)
    · have hf := ite_t hc2 hf
      exact b_Mo_unit_147 h hr hw ht x2 x3 x4 s0 rx2 rx3 rx4 hf
    · have hf := ite_f hc2 hf
      exact b_Mo_unit_134 h hr hw ht x2 x3 x4 s0 rx2 rx3 rx4 hf
set_option maxRecDepth 20000 in
theorem b_Mo_unit_121 {l : Launch} {D : va_G} {cs : Nat → ClassId} {aS aV : Nat} {A : Nat → Prop} {K : KT} {ad : Nat → Nat} {n : Nat} {nl : Nat → Nat → Bool} {out : Int × SS} (h : w_Cl l rm_Mo_unit D cs aS aV A cX12_unit 7 RX12 "unit" K) (hr : w_Rt 2 cX12_unit 0 0 (w_Po ad n nl out) K) (hw : w_WH n nl) (ht : 86 < n) (x2 : Int) (x3 : Int) (x4 : Int) (x5 : Int) (s0 : SS) (rx2 : rI x2) (rx3 : rI x3) (rx4 : rI x4) (rx5 : rI x5) (hf : j_Mo_unit_121 x2 x3 x4 x5 s0 = some out) : K ad n nl 0 0 121 [(0, .ref (ad 86)), (2, .int (vI x2)), (3, .int (vI x3)), (4, .int (vI x4)), (5, .int (vI x5))] [] s0 := by
  unfold j_Mo_unit_121 at hf
  refine r_rS h (fun hs0 => ?_)
  refine r_iload h dX12_unit_121 4 rfl ?_
  refine r_if_ne (tgt := 143) h dX12_unit_123 (by decide) rx5 (fun hc1 => ?_) (fun hc1 => ?_)
  · have hf := ite_f hc1 hf
    refine r_sub h [0, 1, 2, 3] rfl ?_
    exact b_Mo_unit_143 h hr hw ht x2 x3 x4 s0 rx2 rx3 rx4 hf
  · have hf := ite_nf hc1 hf
    refine r_sub h [0, 1, 2, 3] rfl ?_
    exact b_Mo_unit_126 h hr hw ht x2 x3 x4 s0 rx2 rx3 rx4 hf
set_option maxRecDepth 20000 in
theorem b_Mo_unit_98 {l : Launch} {D : va_G} {cs : Nat → ClassId} {aS aV : Nat} {A : Nat → Prop} {K : KT} {ad : Nat → Nat} {n : Nat} {nl : Nat → Nat → Bool} {out : Int × SS} (h : w_Cl l rm_Mo_unit D cs aS aV A cX12_unit 7 RX12 "unit" K) (hr : w_Rt 2 cX12_unit 0 0 (w_Po ad n nl out) K) (hw : w_WH n nl) (ht : 86 < n) (x2 : Int) (x3 : Int) (x4 : Int) (z0 : Int) (s0 : SS) (rx2 : rI x2) (rx3 : rI x3) (rx4 : rI x4) (rz0 : rI z0) (hf : j_Mo_unit_98 x2 x3 x4 z0 s0 = some out) : K ad n nl 0 0 98 [(0, .ref (ad 86)), (2, .int (vI x2)), (3, .int (vI x3)), (4, .int (vI x4))] [.int (vI z0)] s0 := by
  unfold j_Mo_unit_98 at hf
  refine r_rS h (fun hs0 => ?_)
  refine r_istore h [(5, .int (vI z0)), (0, .ref (ad 86)), (2, .int (vI x2)), (3, .int (vI x3)), (4, .int (vI x4))] dX12_unit_98 (by decide) rfl ?_
  refine r_iload_n h dX12_unit_100 rfl 2 rfl ?_
  refine r_if_ne (tgt := 126) h dX12_unit_101 (by decide) rx2 (fun hc1 => ?_) (fun hc1 => ?_)
  · have hf := ite_f hc1 hf
    refine r_sub h [1, 2, 3, 4] rfl ?_
    exact b_Mo_unit_126 h hr hw ht x2 x3 x4 s0 rx2 rx3 rx4 hf
  · have hf := ite_nf hc1 hf
    refine r_iload h dX12_unit_104 4 rfl ?_
    refine r_if_ne (tgt := 121) h dX12_unit_106 (by decide) rx4 (fun hc2 => ?_) (fun hc2 => ?_)
    · have hf := ite_f hc2 hf
      refine r_sub h [1, 2, 3, 4, 0] rfl ?_
      exact b_Mo_unit_121 h hr hw ht x2 x3 x4 z0 s0 rx2 rx3 rx4 rz0 hf
    · have hf := ite_nf hc2 hf
      refine r_aload_n h dX12_unit_109 rfl 1 rfl ?_
      refine g_X12_237 h dX12_unit_110 ht rC_86 ?_
      refine r_iconst h dX12_unit_113 ?_
      refine r_icmp_eq (tgt := 121) h dX12_unit_114 (by decide) (hs0.1 _ _) (rIc rfl) (fun hc3 => ?_) (fun hc3 => ?_)
      · have hf := ite_t hc3 hf
        refine r_sub h [1, 2, 3, 4, 0] rfl ?_
        exact b_Mo_unit_121 h hr hw ht x2 x3 x4 z0 s0 rx2 rx3 rx4 rz0 hf
      · have hf := ite_f hc3 hf
        refine r_iload_n h dX12_unit_117 rfl 3 rfl ?_
        refine r_if_eq (tgt := 143) h dX12_unit_118 (by decide) rx3 (fun hc4 => ?_) (fun hc4 => ?_)
        · have hf := ite_t hc4 hf
          refine r_sub h [1, 2, 3, 4] rfl ?_
          exact b_Mo_unit_143 h hr hw ht x2 x3 x4 s0 rx2 rx3 rx4 hf
        · have hf := ite_f hc4 hf
          refine r_sub h [1, 2, 3, 4, 0] rfl ?_
          exact b_Mo_unit_121 h hr hw ht x2 x3 x4 z0 s0 rx2 rx3 rx4 rz0 hf
set_option maxRecDepth 20000 in
theorem b_Mo_unit_93 {l : Launch} {D : va_G} {cs : Nat → ClassId} {aS aV : Nat} {A : Nat → Prop} {K : KT} {ad : Nat → Nat} {n : Nat} {nl : Nat → Nat → Bool} {out : Int × SS} (h : w_Cl l rm_Mo_unit D cs aS aV A cX12_unit 7 RX12 "unit" K) (hr : w_Rt 2 cX12_unit 0 0 (w_Po ad n nl out) K) (hw : w_WH n nl) (ht : 86 < n) (x2 : Int) (x3 : Int) (x4 : Int) (s0 : SS) (rx2 : rI x2) (rx3 : rI x3) (rx4 : rI x4) (hf : j_Mo_unit_93 x2 x3 x4 s0 = some out) : K ad n nl 0 0 93 [(0, .ref (ad 86)), (2, .int (vI x2)), (3, .int (vI x3)), (4, .int (vI x4))] [] s0 := by
  unfold j_Mo_unit_93 at hf
  refine r_rS h (fun hs0 => ?_)
  refine r_iconst h dX12_unit_93 ?_
  refine r_goto (tgt := 98) h dX12_unit_94 (by decide) ?_
  exact b_Mo_unit_98 h hr hw ht x2 x3 x4 1 s0 rx2 rx3 rx4 (rIc rfl) hf
set_option maxRecDepth 20000 in
theorem b_Mo_unit_56 {l : Launch} {D : va_G} {cs : Nat → ClassId} {aS aV : Nat} {A : Nat → Prop} {K : KT} {ad : Nat → Nat} {n : Nat} {nl : Nat → Nat → Bool} {out : Int × SS} (h : w_Cl l rm_Mo_unit D cs aS aV A cX12_unit 7 RX12 "unit" K) (hr : w_Rt 2 cX12_unit 0 0 (w_Po ad n nl out) K) (hw : w_WH n nl) (ht : 86 < n) (z0 : Int) (s0 : SS) (rz0 : rI z0) (hf : j_Mo_unit_56 z0 s0 = some out) : K ad n nl 0 0 56 [(0, .ref (ad 86))] [.int (vI z0)] s0 := by
  unfold j_Mo_unit_56 at hf
  refine r_rS h (fun hs0 => ?_)
  refine r_istore_n h [(2, .int (vI z0)), (0, .ref (ad 86))] dX12_unit_56 rfl (by decide) rfl ?_
  refine r_aload_n h dX12_unit_57 rfl 1 rfl ?_
  refine r_bipush h dX12_unit_58 (by decide) ?_
  obtain ⟨r1, s1, hq1, hf⟩ := ob_some hf
  refine r_callV2 h [.int (vI 40)] dX12_unit_60 (fun hs => m_Mo_isSignHere hw ht (rIc rfl) hs hq1) ml_X12_320 cv_Mo_isSignHere rfl (co := 12) rfl (by decide) ht rC_86 ⟨rfl, rfl⟩ ⟨Nat.le_of_ble_eq_true rfl, Nat.le_of_ble_eq_true rfl⟩ ⟨Nat.le_of_ble_eq_true rfl, Nat.le_of_ble_eq_true rfl⟩ (Nat.le_of_ble_eq_true rfl) rfl (fun hr1 hs1 => ?_)
  refine r_istore_n h [(3, .int (vI r1)), (2, .int (vI z0)), (0, .ref (ad 86))] dX12_unit_63 rfl (by decide) rfl ?_
  refine r_aload_n h dX12_unit_64 rfl 2 rfl ?_
  obtain ⟨r2, s2, hq2, hf⟩ := ob_some hf
  refine r_callV1 h [] dX12_unit_65 (fun hs => m_Mo_wordHere hw ht hs hq2) ml_X12_363 cv_Mo_wordHere rfl (co := 12) rfl (by decide) ht rC_86 ⟨rfl, rfl⟩ ⟨Nat.le_of_ble_eq_true rfl, Nat.le_of_ble_eq_true rfl⟩ ⟨Nat.le_of_ble_eq_true rfl, Nat.le_of_ble_eq_true rfl⟩ (Nat.le_of_ble_eq_true rfl) rfl (fun hr2 hs2 => ?_)
  refine r_istore h [(4, .int (vI r2)), (3, .int (vI r1)), (2, .int (vI z0)), (0, .ref (ad 86))] dX12_unit_68 (by decide) rfl ?_
  refine r_aload_n h dX12_unit_70 rfl 3 rfl ?_
  have hq3 := w_ref hw ht rC_86 (by decide) (k := 15) (by decide) rf_12_15
  refine g_X12_33 h dX12_unit_71 ht rC_86 hq3.1 ?_
  refine r_aload_n h dX12_unit_74 rfl 3 rfl ?_
  refine g_X12_286 h dX12_unit_75 ht rC_86 ?_
  obtain ⟨hi4, hf⟩ := oc_some hf
  refine r_iald h dX12_unit_78 hq3.2 rC_93 (hs2.1 _ _) (N := 2) (by rw [rN_93]; rfl) (j := (gi s2 86 41).toNat) rfl hi4 ?_
  refine r_bipush h dX12_unit_79 (by decide) ?_
  refine r_icmp_eq (tgt := 93) h dX12_unit_81 (by decide) (hs2.1 _ _) (rIc rfl) (fun hc5 => ?_) (fun hc5 => ?_)
  · have hf := ite_t hc5 hf
    refine r_sub h [3, 2, 1, 0] rfl ?_
    exact b_Mo_unit_93 h hr hw ht z0 r1 r2 s2 rz0 (rI_b hr1) hr2 hf
  · have hf := ite_f hc5 hf
    refine r_aload_n h dX12_unit_84 rfl 3 rfl ?_
    refine g_X12_342 h dX12_unit_85 ht rC_86 ?_
    refine r_bipush h dX12_unit_88 (by decide) ?_
    refine r_icmp_ne (tgt := 97) h dX12_unit_90 (by decide) (hs2.1 _ _) (rIc rfl) (fun hc6 => ?_) (fun hc6 => ?_)
    · have hf := ite_f hc6 hf
      refine r_iconst h dX12_unit_97 ?_
      refine r_sub h [3, 2, 1, 0] rfl ?_
      exact b_Mo_unit_98 h hr hw ht z0 r1 r2 0 s2 rz0 (rI_b hr1) hr2 (rIc rfl) hf
    · have hf := ite_nf hc6 hf
      refine r_sub h [3, 2, 1, 0] rfl ?_
      exact b_Mo_unit_93 h hr hw ht z0 r1 r2 s2 rz0 (rI_b hr1) hr2 hf
set_option maxRecDepth 20000 in
theorem b_Mo_unit_55 {l : Launch} {D : va_G} {cs : Nat → ClassId} {aS aV : Nat} {A : Nat → Prop} {K : KT} {ad : Nat → Nat} {n : Nat} {nl : Nat → Nat → Bool} {out : Int × SS} (h : w_Cl l rm_Mo_unit D cs aS aV A cX12_unit 7 RX12 "unit" K) (hr : w_Rt 2 cX12_unit 0 0 (w_Po ad n nl out) K) (hw : w_WH n nl) (ht : 86 < n) (s0 : SS) (hf : j_Mo_unit_55 s0 = some out) : K ad n nl 0 0 55 [(0, .ref (ad 86))] [] s0 := by
  unfold j_Mo_unit_55 at hf
  refine r_rS h (fun hs0 => ?_)
  refine r_iconst h dX12_unit_55 ?_
  exact b_Mo_unit_56 h hr hw ht 0 s0 (rIc rfl) hf
set_option maxRecDepth 20000 in
theorem b_Mo_unit_36 {l : Launch} {D : va_G} {cs : Nat → ClassId} {aS aV : Nat} {A : Nat → Prop} {K : KT} {ad : Nat → Nat} {n : Nat} {nl : Nat → Nat → Bool} {out : Int × SS} (h : w_Cl l rm_Mo_unit D cs aS aV A cX12_unit 7 RX12 "unit" K) (hr : w_Rt 2 cX12_unit 0 0 (w_Po ad n nl out) K) (hw : w_WH n nl) (ht : 86 < n) (z0 : Int) (s0 : SS) (rz0 : rI z0) (hf : j_Mo_unit_36 z0 s0 = some out) : K ad n nl 0 0 36 [(0, .ref (ad 86))] [.int (vI z0)] s0 := by
  unfold j_Mo_unit_36 at hf
  refine r_rS h (fun hs0 => ?_)
  refine r_istore_n h [(1, .int (vI z0)), (0, .ref (ad 86))] dX12_unit_36 rfl (by decide) rfl ?_
  refine r_iload_n h dX12_unit_37 rfl 0 rfl ?_
  refine r_if_eq (tgt := 55) h dX12_unit_38 (by decide) rz0 (fun hc1 => ?_) (fun hc1 => ?_)
  · have hf := ite_t hc1 hf
    refine r_sub h [1] rfl ?_
    exact b_Mo_unit_55 h hr hw ht s0 hf
  · have hf := ite_f hc1 hf
    refine r_aload_n h dX12_unit_41 rfl 1 rfl ?_
    refine r_ldc2 (x := 7237492) h dX12_unit_42 (gt_in7 144 rfl rfl) rfl ?_
    obtain ⟨r2, s2, hq2, hf⟩ := ob_some hf
    refine r_callV2 h [.long (vJ 7237492)] dX12_unit_45 (fun hs => m_Mo_isWord hw ht (rJc rfl) hs hq2) ml_X12_275 cv_Mo_isWord rfl (co := 12) rfl (by decide) ht rC_86 ⟨rfl, rfl⟩ ⟨Nat.le_of_ble_eq_true rfl, Nat.le_of_ble_eq_true rfl⟩ ⟨Nat.le_of_ble_eq_true rfl, Nat.le_of_ble_eq_true rfl⟩ (Nat.le_of_ble_eq_true rfl) rfl (fun hr2 hs2 => ?_)
    refine r_if_eq (tgt := 55) h dX12_unit_48 (by decide) (rI_b hr2) (fun hc3 => ?_) (fun hc3 => ?_)
    · have hf := ite_t hc3 hf
      refine r_sub h [1] rfl ?_
      exact b_Mo_unit_55 h hr hw ht s2 hf
    · have hf := ite_f hc3 hf
      refine r_iconst h dX12_unit_51 ?_
      refine r_goto (tgt := 56) h dX12_unit_52 (by decide) ?_
      refine r_sub h [1] rfl ?_
      exact b_Mo_unit_56 h hr hw ht 1 s2 (rIc rfl) hf
set_option maxRecDepth 20000 in
theorem b_Mo_unit_31 {l : Launch} {D : va_G} {cs : Nat → ClassId} {aS aV : Nat} {A : Nat → Prop} {K : KT} {ad : Nat → Nat} {n : Nat} {nl : Nat → Nat → Bool} {out : Int × SS} (h : w_Cl l rm_Mo_unit D cs aS aV A cX12_unit 7 RX12 "unit" K) (hr : w_Rt 2 cX12_unit 0 0 (w_Po ad n nl out) K) (hw : w_WH n nl) (ht : 86 < n) (s0 : SS) (hf : j_Mo_unit_31 s0 = some out) : K ad n nl 0 0 31 [(0, .ref (ad 86))] [] s0 := by
  unfold j_Mo_unit_31 at hf
  refine r_rS h (fun hs0 => ?_)
  refine r_iconst h dX12_unit_31 ?_
  refine r_goto (tgt := 36) h dX12_unit_32 (by decide) ?_
  exact b_Mo_unit_36 h hr hw ht 1 s0 (rIc rfl) hf
set_option maxRecDepth 20000 in
theorem m_Mo_unit {l : Launch} {D : va_G} {cs : Nat → ClassId} {aS aV : Nat} {A : Nat → Prop} {ad : Nat → Nat} {n : Nat} {nl : Nat → Nat → Bool} {out : Int × SS} (hw : w_WH n nl) (ht : 86 < n) {s0 : SS} (hs0 : rS s0) (hf : f_Mo_unit s0 = some out) : w_MC l D cs aS aV A yX12_unit cX12_unit 7 2 rm_Mo_unit ad n nl [.ref (ad 86)] s0 (w_Po ad n nl out) := by
  refine w_MC_of (by decide +kernel) (by decide) hs0 (Nat.le_of_ble_eq_true rfl) (fun K h hr => ?_)
  refine r_lv (lv' := [(0, .ref (ad 86))]) rfl ?_
  unfold f_Mo_unit at hf
  refine r_rS h (fun hs0 => ?_)
  refine r_aload_n h dX12_unit_0 rfl 0 rfl ?_
  have hq1 := w_ref hw ht rC_86 (by decide) (k := 37) (by decide) rf_12_37
  refine g_X12_101 h dX12_unit_1 ht rC_86 hq1.1 ?_
  refine r_aload_n h dX12_unit_4 rfl 0 rfl ?_
  refine g_X12_348 h dX12_unit_5 ht rC_86 ?_
  refine r_iconst h dX12_unit_8 ?_
  refine r_isub h dX12_unit_9 ?_
  obtain ⟨hi2, hf⟩ := oc_some hf
  refine r_iald h dX12_unit_10 hq1.2 rC_115 (rI_iw _) (N := 90) (by rw [rN_115]; rfl) (j := (iw ((gi s0 86 44) - 1)).toNat) rfl hi2 ?_
  refine r_iconst h dX12_unit_11 ?_
  refine r_icmp_le (tgt := 31) h dX12_unit_12 (by decide) (hs0.1 _ _) (rIc rfl) (fun hc3 => ?_) (fun hc3 => ?_)
  · have hf := ite_t hc3 hf
    exact b_Mo_unit_31 h hr hw ht s0 hf
  · have hf := ite_f hc3 hf
    refine r_aload_n h dX12_unit_15 rfl 0 rfl ?_
    have hq4 := w_ref hw ht rC_86 (by decide) (k := 37) (by decide) rf_12_37
    refine g_X12_101 h dX12_unit_16 ht rC_86 hq4.1 ?_
    refine r_aload_n h dX12_unit_19 rfl 0 rfl ?_
    refine g_X12_348 h dX12_unit_20 ht rC_86 ?_
    refine r_iconst h dX12_unit_23 ?_
    refine r_isub h dX12_unit_24 ?_
    obtain ⟨hi5, hf⟩ := oc_some hf
    refine r_iald h dX12_unit_25 hq4.2 rC_115 (rI_iw _) (N := 90) (by rw [rN_115]; rfl) (j := (iw ((gi s0 86 44) - 1)).toNat) rfl hi5 ?_
    refine r_bipush h dX12_unit_26 (by decide) ?_
    refine r_icmp_lt (tgt := 35) h dX12_unit_28 (by decide) (hs0.1 _ _) (rIc rfl) (fun hc6 => ?_) (fun hc6 => ?_)
    · have hf := ite_t hc6 hf
      refine r_iconst h dX12_unit_35 ?_
      exact b_Mo_unit_36 h hr hw ht 0 s0 (rIc rfl) hf
    · have hf := ite_f hc6 hf
      exact b_Mo_unit_31 h hr hw ht s0 hf
set_option maxRecDepth 20000 in
theorem m_Mo_rankHere {l : Launch} {D : va_G} {cs : Nat → ClassId} {aS aV : Nat} {A : Nat → Prop} {ad : Nat → Nat} {n : Nat} {nl : Nat → Nat → Bool} {out : Int × SS} (hw : w_WH n nl) (ht : 86 < n) {s0 : SS} (hs0 : rS s0) (hf : f_Mo_rankHere s0 = some out) : w_MC l D cs aS aV A yX12_rankHere cX12_rankHere 1 1 rm_Mo_rankHere ad n nl [.ref (ad 86)] s0 (w_Po ad n nl out) := by
  refine w_MC_of (by decide +kernel) (by decide) hs0 (Nat.le_of_ble_eq_true rfl) (fun K h hr => ?_)
  refine r_lv (lv' := [(0, .ref (ad 86))]) rfl ?_
  unfold f_Mo_rankHere at hf
  refine r_rS h (fun hs0 => ?_)
  refine r_aload_n h dX12_rankHere_0 rfl 0 rfl ?_
  refine r_ldc2 (x := 6385252) h dX12_rankHere_1 (gt_in7 143 rfl rfl) rfl ?_
  obtain ⟨r1, s1, hq1, hf⟩ := ob_some hf
  refine r_callV2 h [.long (vJ 6385252)] dX12_rankHere_4 (fun hs => m_Mo_isWord hw ht (rJc rfl) hs hq1) ml_X12_275 cv_Mo_isWord rfl (co := 12) rfl (by decide) ht rC_86 ⟨rfl, rfl⟩ ⟨Nat.le_of_ble_eq_true rfl, Nat.le_of_ble_eq_true rfl⟩ ⟨Nat.le_of_ble_eq_true rfl, Nat.le_of_ble_eq_true rfl⟩ (Nat.le_of_ble_eq_true rfl) rfl (fun hr1 hs1 => ?_)
  refine r_if_eq (tgt := 12) h dX12_rankHere_7 (by decide) (rI_b hr1) (fun hc2 => ?_) (fun hc2 => ?_)
  · have hf := ite_t hc2 hf
    refine r_aload_n h dX12_rankHere_12 rfl 0 rfl ?_
    refine r_ldc2 (x := 28530) h dX12_rankHere_13 (gt_in7 142 rfl rfl) rfl ?_
    obtain ⟨r3, s3, hq3, hf⟩ := ob_some hf
    refine r_callV2 h [.long (vJ 28530)] dX12_rankHere_16 (fun hs => m_Mo_isWord hw ht (rJc rfl) hs hq3) ml_X12_275 cv_Mo_isWord rfl (co := 12) rfl (by decide) ht rC_86 ⟨rfl, rfl⟩ ⟨Nat.le_of_ble_eq_true rfl, Nat.le_of_ble_eq_true rfl⟩ ⟨Nat.le_of_ble_eq_true rfl, Nat.le_of_ble_eq_true rfl⟩ (Nat.le_of_ble_eq_true rfl) rfl (fun hr3 hs3 => ?_)
    refine r_if_eq (tgt := 24) h dX12_rankHere_19 (by decide) (rI_b hr3) (fun hc4 => ?_) (fun hc4 => ?_)
    · have hf := ite_t hc4 hf
      refine r_aload_n h dX12_rankHere_24 rfl 0 rfl ?_
      refine r_bipush h dX12_rankHere_25 (by decide) ?_
      obtain ⟨r5, s5, hq5, hf⟩ := ob_some hf
      refine r_callV2 h [.int (vI 60)] dX12_rankHere_27 (fun hs => m_Mo_isSignHere hw ht (rIc rfl) hs hq5) ml_X12_320 cv_Mo_isSignHere rfl (co := 12) rfl (by decide) ht rC_86 ⟨rfl, rfl⟩ ⟨Nat.le_of_ble_eq_true rfl, Nat.le_of_ble_eq_true rfl⟩ ⟨Nat.le_of_ble_eq_true rfl, Nat.le_of_ble_eq_true rfl⟩ (Nat.le_of_ble_eq_true rfl) rfl (fun hr5 hs5 => ?_)
      refine r_if_ne (tgt := 51) h dX12_rankHere_30 (by decide) (rI_b hr5) (fun hc6 => ?_) (fun hc6 => ?_)
      · have hf := ite_f hc6 hf
        refine r_iconst h dX12_rankHere_51 ?_
        exact r_ret1 hr dX12_rankHere_52 (rIc rfl) hf
      · have hf := ite_nf hc6 hf
        refine r_aload_n h dX12_rankHere_33 rfl 0 rfl ?_
        refine r_bipush h dX12_rankHere_34 (by decide) ?_
        obtain ⟨r7, s7, hq7, hf⟩ := ob_some hf
        refine r_callV2 h [.int (vI 62)] dX12_rankHere_36 (fun hs => m_Mo_isSignHere hw ht (rIc rfl) hs hq7) ml_X12_320 cv_Mo_isSignHere rfl (co := 12) rfl (by decide) ht rC_86 ⟨rfl, rfl⟩ ⟨Nat.le_of_ble_eq_true rfl, Nat.le_of_ble_eq_true rfl⟩ ⟨Nat.le_of_ble_eq_true rfl, Nat.le_of_ble_eq_true rfl⟩ (Nat.le_of_ble_eq_true rfl) rfl (fun hr7 hs7 => ?_)
        refine r_if_ne (tgt := 51) h dX12_rankHere_39 (by decide) (rI_b hr7) (fun hc8 => ?_) (fun hc8 => ?_)
        · have hf := ite_f hc8 hf
          refine r_iconst h dX12_rankHere_51 ?_
          exact r_ret1 hr dX12_rankHere_52 (rIc rfl) hf
        · have hf := ite_nf hc8 hf
          refine r_aload_n h dX12_rankHere_42 rfl 0 rfl ?_
          refine r_bipush h dX12_rankHere_43 (by decide) ?_
          obtain ⟨r9, s9, hq9, hf⟩ := ob_some hf
          refine r_callV2 h [.int (vI 61)] dX12_rankHere_45 (fun hs => m_Mo_isSignHere hw ht (rIc rfl) hs hq9) ml_X12_320 cv_Mo_isSignHere rfl (co := 12) rfl (by decide) ht rC_86 ⟨rfl, rfl⟩ ⟨Nat.le_of_ble_eq_true rfl, Nat.le_of_ble_eq_true rfl⟩ ⟨Nat.le_of_ble_eq_true rfl, Nat.le_of_ble_eq_true rfl⟩ (Nat.le_of_ble_eq_true rfl) rfl (fun hr9 hs9 => ?_)
          refine r_if_eq (tgt := 53) h dX12_rankHere_48 (by decide) (rI_b hr9) (fun hc10 => ?_) (fun hc10 => ?_)
          · have hf := ite_t hc10 hf
            refine r_aload_n h dX12_rankHere_53 rfl 0 rfl ?_
            refine r_bipush h dX12_rankHere_54 (by decide) ?_
            obtain ⟨r11, s11, hq11, hf⟩ := ob_some hf
            refine r_callV2 h [.int (vI 43)] dX12_rankHere_56 (fun hs => m_Mo_isSignHere hw ht (rIc rfl) hs hq11) ml_X12_320 cv_Mo_isSignHere rfl (co := 12) rfl (by decide) ht rC_86 ⟨rfl, rfl⟩ ⟨Nat.le_of_ble_eq_true rfl, Nat.le_of_ble_eq_true rfl⟩ ⟨Nat.le_of_ble_eq_true rfl, Nat.le_of_ble_eq_true rfl⟩ (Nat.le_of_ble_eq_true rfl) rfl (fun hr11 hs11 => ?_)
            refine r_if_ne (tgt := 71) h dX12_rankHere_59 (by decide) (rI_b hr11) (fun hc12 => ?_) (fun hc12 => ?_)
            · have hf := ite_f hc12 hf
              refine r_iconst h dX12_rankHere_71 ?_
              exact r_ret1 hr dX12_rankHere_72 (rIc rfl) hf
            · have hf := ite_nf hc12 hf
              refine r_aload_n h dX12_rankHere_62 rfl 0 rfl ?_
              refine r_bipush h dX12_rankHere_63 (by decide) ?_
              obtain ⟨r13, s13, hq13, hf⟩ := ob_some hf
              refine r_callV2 h [.int (vI 45)] dX12_rankHere_65 (fun hs => m_Mo_isSignHere hw ht (rIc rfl) hs hq13) ml_X12_320 cv_Mo_isSignHere rfl (co := 12) rfl (by decide) ht rC_86 ⟨rfl, rfl⟩ ⟨Nat.le_of_ble_eq_true rfl, Nat.le_of_ble_eq_true rfl⟩ ⟨Nat.le_of_ble_eq_true rfl, Nat.le_of_ble_eq_true rfl⟩ (Nat.le_of_ble_eq_true rfl) rfl (fun hr13 hs13 => ?_)
              refine r_if_eq (tgt := 73) h dX12_rankHere_68 (by decide) (rI_b hr13) (fun hc14 => ?_) (fun hc14 => ?_)
              · have hf := ite_t hc14 hf
                refine r_aload_n h dX12_rankHere_73 rfl 0 rfl ?_
                refine r_bipush h dX12_rankHere_74 (by decide) ?_
                obtain ⟨r15, s15, hq15, hf⟩ := ob_some hf
                refine r_callV2 h [.int (vI 42)] dX12_rankHere_76 (fun hs => m_Mo_isSignHere hw ht (rIc rfl) hs hq15) ml_X12_320 cv_Mo_isSignHere rfl (co := 12) rfl (by decide) ht rC_86 ⟨rfl, rfl⟩ ⟨Nat.le_of_ble_eq_true rfl, Nat.le_of_ble_eq_true rfl⟩ ⟨Nat.le_of_ble_eq_true rfl, Nat.le_of_ble_eq_true rfl⟩ (Nat.le_of_ble_eq_true rfl) rfl (fun hr15 hs15 => ?_)
                refine r_if_ne (tgt := 100) h dX12_rankHere_79 (by decide) (rI_b hr15) (fun hc16 => ?_) (fun hc16 => ?_)
                · have hf := ite_f hc16 hf
                  refine r_bipush h dX12_rankHere_100 (by decide) ?_
                  refine r_goto (tgt := 106) h dX12_rankHere_102 (by decide) ?_
                  exact r_ret1 hr dX12_rankHere_106 (rIc rfl) hf
                · have hf := ite_nf hc16 hf
                  refine r_aload_n h dX12_rankHere_82 rfl 0 rfl ?_
                  refine r_bipush h dX12_rankHere_83 (by decide) ?_
                  obtain ⟨r17, s17, hq17, hf⟩ := ob_some hf
                  refine r_callV2 h [.int (vI 47)] dX12_rankHere_85 (fun hs => m_Mo_isSignHere hw ht (rIc rfl) hs hq17) ml_X12_320 cv_Mo_isSignHere rfl (co := 12) rfl (by decide) ht rC_86 ⟨rfl, rfl⟩ ⟨Nat.le_of_ble_eq_true rfl, Nat.le_of_ble_eq_true rfl⟩ ⟨Nat.le_of_ble_eq_true rfl, Nat.le_of_ble_eq_true rfl⟩ (Nat.le_of_ble_eq_true rfl) rfl (fun hr17 hs17 => ?_)
                  refine r_if_ne (tgt := 100) h dX12_rankHere_88 (by decide) (rI_b hr17) (fun hc18 => ?_) (fun hc18 => ?_)
                  · have hf := ite_f hc18 hf
                    refine r_bipush h dX12_rankHere_100 (by decide) ?_
                    refine r_goto (tgt := 106) h dX12_rankHere_102 (by decide) ?_
                    exact r_ret1 hr dX12_rankHere_106 (rIc rfl) hf
                  · have hf := ite_nf hc18 hf
                    refine r_aload_n h dX12_rankHere_91 rfl 0 rfl ?_
                    refine r_bipush h dX12_rankHere_92 (by decide) ?_
                    obtain ⟨r19, s19, hq19, hf⟩ := ob_some hf
                    refine r_callV2 h [.int (vI 37)] dX12_rankHere_94 (fun hs => m_Mo_isSignHere hw ht (rIc rfl) hs hq19) ml_X12_320 cv_Mo_isSignHere rfl (co := 12) rfl (by decide) ht rC_86 ⟨rfl, rfl⟩ ⟨Nat.le_of_ble_eq_true rfl, Nat.le_of_ble_eq_true rfl⟩ ⟨Nat.le_of_ble_eq_true rfl, Nat.le_of_ble_eq_true rfl⟩ (Nat.le_of_ble_eq_true rfl) rfl (fun hr19 hs19 => ?_)
                    refine r_if_eq (tgt := 105) h dX12_rankHere_97 (by decide) (rI_b hr19) (fun hc20 => ?_) (fun hc20 => ?_)
                    · have hf := ite_t hc20 hf
                      refine r_iconst h dX12_rankHere_105 ?_
                      exact r_ret1 hr dX12_rankHere_106 (rIc rfl) hf
                    · have hf := ite_f hc20 hf
                      refine r_bipush h dX12_rankHere_100 (by decide) ?_
                      refine r_goto (tgt := 106) h dX12_rankHere_102 (by decide) ?_
                      exact r_ret1 hr dX12_rankHere_106 (rIc rfl) hf
              · have hf := ite_f hc14 hf
                refine r_iconst h dX12_rankHere_71 ?_
                exact r_ret1 hr dX12_rankHere_72 (rIc rfl) hf
          · have hf := ite_f hc10 hf
            refine r_iconst h dX12_rankHere_51 ?_
            exact r_ret1 hr dX12_rankHere_52 (rIc rfl) hf
    · have hf := ite_f hc4 hf
      refine r_iconst h dX12_rankHere_22 ?_
      exact r_ret1 hr dX12_rankHere_23 (rIc rfl) hf
  · have hf := ite_f hc2 hf
    refine r_iconst h dX12_rankHere_10 ?_
    exact r_ret1 hr dX12_rankHere_11 (rIc rfl) hf
set_option maxRecDepth 20000 in
theorem b_Mo_isCompared_7 {l : Launch} {D : va_G} {cs : Nat → ClassId} {aS aV : Nat} {A : Nat → Prop} {K : KT} {ad : Nat → Nat} {n : Nat} {nl : Nat → Nat → Bool} {out : Int × SS} (h : w_Cl l rm_Mo_isCompared D cs aS aV A cX12_isCompared 2 RX12 "isCompared" K) (hr : w_Rt 2 cX12_isCompared 0 0 (w_Po ad n nl out) K) (hw : w_WH n nl) (ht : 86 < n) : ∀ (fu : Nat) (x1 : Int) (s0 : SS), rI x1 → l_Mo_isCompared_7 fu x1 s0 = some out → K ad n nl 0 0 7 [(0, .ref (ad 86)), (1, .int (vI x1))] [] s0 := by
  intro fu
  induction fu with
  | zero =>
    intro x1 s0 rx1 hf
    rw [l_Mo_isCompared_7] at hf
    cases hf
  | succ fu ih =>
    intro x1 s0 rx1 hf
    rw [l_Mo_isCompared_7] at hf
    refine r_rS h (fun hs0 => ?_)
    refine r_aload_n h dX12_isCompared_7 rfl 0 rfl ?_
    have hq1 := w_ref hw ht rC_86 (by decide) (k := 37) (by decide) rf_12_37
    refine g_X12_101 h dX12_isCompared_8 ht rC_86 hq1.1 ?_
    refine r_iload_n h dX12_isCompared_11 rfl 1 rfl ?_
    obtain ⟨hi2, hf⟩ := oc_some hf
    refine r_iald h dX12_isCompared_12 hq1.2 rC_115 rx1 (N := 90) (by rw [rN_115]; rfl) (j := (x1).toNat) rfl hi2 ?_
    refine r_iconst h dX12_isCompared_13 ?_
    refine r_icmp_eq (tgt := 28) h dX12_isCompared_14 (by decide) (hs0.1 _ _) (rIc rfl) (fun hc3 => ?_) (fun hc3 => ?_)
    · have hf := ite_t hc3 hf
      refine r_iinc h [(1, .int (vI (iw (x1 + (-1))))), (0, .ref (ad 86))] dX12_isCompared_28 1 rfl (by decide) rfl ?_
      refine r_goto (tgt := 7) h dX12_isCompared_31 (by decide) ?_
      refine r_sub h [1, 0] rfl ?_
      exact ih (iw (x1 + (-1))) s0 (rI_iw _) hf
    · have hf := ite_f hc3 hf
      refine r_aload_n h dX12_isCompared_17 rfl 0 rfl ?_
      have hq4 := w_ref hw ht rC_86 (by decide) (k := 37) (by decide) rf_12_37
      refine g_X12_101 h dX12_isCompared_18 ht rC_86 hq4.1 ?_
      refine r_iload_n h dX12_isCompared_21 rfl 1 rfl ?_
      obtain ⟨hi5, hf⟩ := oc_some hf
      refine r_iald h dX12_isCompared_22 hq4.2 rC_115 rx1 (N := 90) (by rw [rN_115]; rfl) (j := (x1).toNat) rfl hi5 ?_
      refine r_bipush h dX12_isCompared_23 (by decide) ?_
      refine r_icmp_ne (tgt := 34) h dX12_isCompared_25 (by decide) (hs0.1 _ _) (rIc rfl) (fun hc6 => ?_) (fun hc6 => ?_)
      · have hf := ite_f hc6 hf
        refine r_aload_n h dX12_isCompared_34 rfl 0 rfl ?_
        have hq7 := w_ref hw ht rC_86 (by decide) (k := 37) (by decide) rf_12_37
        refine g_X12_101 h dX12_isCompared_35 ht rC_86 hq7.1 ?_
        refine r_iload_n h dX12_isCompared_38 rfl 1 rfl ?_
        obtain ⟨hi8, hf⟩ := oc_some hf
        refine r_iald h dX12_isCompared_39 hq7.2 rC_115 rx1 (N := 90) (by rw [rN_115]; rfl) (j := (x1).toNat) rfl hi8 ?_
        refine r_iconst h dX12_isCompared_40 ?_
        refine r_icmp_ne (tgt := 48) h dX12_isCompared_41 (by decide) (hs0.1 _ _) (rIc rfl) (fun hc9 => ?_) (fun hc9 => ?_)
        · have hf := ite_f hc9 hf
          refine r_iconst h dX12_isCompared_48 ?_
          exact r_ret2 hr dX12_isCompared_49 (Or.inl rfl) hf
        · have hf := ite_nf hc9 hf
          refine r_iconst h dX12_isCompared_44 ?_
          refine r_goto (tgt := 49) h dX12_isCompared_45 (by decide) ?_
          exact r_ret2 hr dX12_isCompared_49 (Or.inr rfl) hf
      · have hf := ite_nf hc6 hf
        refine r_iinc h [(1, .int (vI (iw (x1 + (-1))))), (0, .ref (ad 86))] dX12_isCompared_28 1 rfl (by decide) rfl ?_
        refine r_goto (tgt := 7) h dX12_isCompared_31 (by decide) ?_
        refine r_sub h [1, 0] rfl ?_
        exact ih (iw (x1 + (-1))) s0 (rI_iw _) hf
set_option maxRecDepth 20000 in
theorem m_Mo_isCompared {l : Launch} {D : va_G} {cs : Nat → ClassId} {aS aV : Nat} {A : Nat → Prop} {ad : Nat → Nat} {n : Nat} {nl : Nat → Nat → Bool} {out : Int × SS} (hw : w_WH n nl) (ht : 86 < n) {s0 : SS} (hs0 : rS s0) (hf : f_Mo_isCompared s0 = some out) : w_MC l D cs aS aV A yX12_isCompared cX12_isCompared 2 2 rm_Mo_isCompared ad n nl [.ref (ad 86)] s0 (w_Po ad n nl out) := by
  refine w_MC_of (by decide +kernel) (by decide) hs0 (Nat.le_of_ble_eq_true rfl) (fun K h hr => ?_)
  refine r_lv (lv' := [(0, .ref (ad 86))]) rfl ?_
  unfold f_Mo_isCompared at hf
  refine r_rS h (fun hs0 => ?_)
  refine r_aload_n h dX12_isCompared_0 rfl 0 rfl ?_
  refine g_X12_348 h dX12_isCompared_1 ht rC_86 ?_
  refine r_iconst h dX12_isCompared_4 ?_
  refine r_isub h dX12_isCompared_5 ?_
  refine r_ol hf (rI_iw _) (fun x1_ rx1_ hf => ?_)
  refine r_istore_n h [(1, .int (vI x1_)), (0, .ref (ad 86))] dX12_isCompared_6 rfl (by decide) rfl ?_
  refine r_sub h [1, 0] rfl ?_
  exact b_Mo_isCompared_7 h hr hw ht FU x1_ s0 rx1_ hf
set_option maxRecDepth 20000 in
theorem b_Mo_behindUnit_87 {l : Launch} {D : va_G} {cs : Nat → ClassId} {aS aV : Nat} {A : Nat → Prop} {K : KT} {ad : Nat → Nat} {n : Nat} {nl : Nat → Nat → Bool} {out : Int × SS} (h : w_Cl l rm_Mo_behindUnit D cs aS aV A cX12_behindUnit 2 RX12 "behindUnit" K) (hr : w_Rt 2 cX12_behindUnit 0 0 (w_Po ad n nl out) K) (hw : w_WH n nl) (ht : 86 < n) (x1 : Int) (self23 : SS → OO) (hself23 : ∀ (τ : SS), self23 τ = some out → K ad n nl 0 0 23 [(0, .ref (ad 86)), (1, .int (vI x1))] [] τ) (s0 : SS) (rx1 : rI x1) (hf : j_Mo_behindUnit_87 self23 x1 s0 = some out) : K ad n nl 0 0 87 [(0, .ref (ad 86)), (1, .int (vI x1))] [] s0 := by
  unfold j_Mo_behindUnit_87 at hf
  refine r_rS h (fun hs0 => ?_)
  refine r_aload_n h dX12_behindUnit_87 rfl 0 rfl ?_
  refine r_aload_n h dX12_behindUnit_88 rfl 0 rfl ?_
  have hq1 := w_ref hw ht rC_86 (by decide) (k := 38) (by decide) rf_12_38
  refine g_X12_104 h dX12_behindUnit_89 ht rC_86 hq1.1 ?_
  refine r_aload_n h dX12_behindUnit_92 rfl 0 rfl ?_
  refine g_X12_348 h dX12_behindUnit_93 ht rC_86 ?_
  obtain ⟨hi2, hf⟩ := oc_some hf
  refine r_iald h dX12_behindUnit_96 hq1.2 rC_116 (hs0.1 _ _) (N := 90) (by rw [rN_116]; rfl) (j := (gi s0 86 44).toNat) rfl hi2 ?_
  refine r_iconst h dX12_behindUnit_97 ?_
  obtain ⟨r3, s3, hq3, hf⟩ := ob_some hf
  refine r_callV0 h [.int (vI (gi s0 116 ((gi s0 86 44).toNat))), .int (vI 0)] dX12_behindUnit_98 (fun hs => m_Mo_emit hw ht (hs0.1 _ _) (rIc rfl) hs hq3) ml_X12_366 cv_Mo_emit rfl (co := 12) rfl (by decide) ht rC_86 ⟨rfl, rfl⟩ ⟨Nat.le_of_ble_eq_true rfl, Nat.le_of_ble_eq_true rfl⟩ ⟨Nat.le_of_ble_eq_true rfl, Nat.le_of_ble_eq_true rfl⟩ (Nat.le_of_ble_eq_true rfl) rfl (fun hr3 hs3 => ?_)
  refine r_goto (tgt := 23) h dX12_behindUnit_101 (by decide) ?_
  exact hself23 s3 hf
set_option maxRecDepth 20000 in
theorem b_Mo_behindUnit_138 {l : Launch} {D : va_G} {cs : Nat → ClassId} {aS aV : Nat} {A : Nat → Prop} {K : KT} {ad : Nat → Nat} {n : Nat} {nl : Nat → Nat → Bool} {out : Int × SS} (h : w_Cl l rm_Mo_behindUnit D cs aS aV A cX12_behindUnit 2 RX12 "behindUnit" K) (hr : w_Rt 2 cX12_behindUnit 0 0 (w_Po ad n nl out) K) (hw : w_WH n nl) (ht : 86 < n) (z1 : Int) (z2 : Int) (s0 : SS) (rz1 : rI z1) (rz2 : rI z2) (hf : j_Mo_behindUnit_138 z1 z2 s0 = some out) : K ad n nl 0 0 138 [(0, .ref (ad 86))] [.int (vI z2), .int (vI z1), .ref (ad 86)] s0 := by
  unfold j_Mo_behindUnit_138 at hf
  refine r_rS h (fun hs0 => ?_)
  obtain ⟨r1, s1, hq1, hf⟩ := ob_some hf
  refine r_callV0 h [.int (vI z1), .int (vI z2)] dX12_behindUnit_138 (fun hs => m_Mo_pushE hw ht rz1 rz2 hs hq1) ml_X12_354 cv_Mo_pushE rfl (co := 12) rfl (by decide) ht rC_86 ⟨rfl, rfl⟩ ⟨Nat.le_of_ble_eq_true rfl, Nat.le_of_ble_eq_true rfl⟩ ⟨Nat.le_of_ble_eq_true rfl, Nat.le_of_ble_eq_true rfl⟩ (Nat.le_of_ble_eq_true rfl) rfl (fun hr1 hs1 => ?_)
  refine r_aload_n h dX12_behindUnit_141 rfl 0 rfl ?_
  obtain ⟨r2, s2, hq2, hf⟩ := ob_some hf
  refine r_callV0 h [] dX12_behindUnit_142 (fun hs => m_Mo_goOn hw ht hs hq2) ml_X12_269 cv_Mo_goOn rfl (co := 12) rfl (by decide) ht rC_86 ⟨rfl, rfl⟩ ⟨Nat.le_of_ble_eq_true rfl, Nat.le_of_ble_eq_true rfl⟩ ⟨Nat.le_of_ble_eq_true rfl, Nat.le_of_ble_eq_true rfl⟩ (Nat.le_of_ble_eq_true rfl) rfl (fun hr2 hs2 => ?_)
  refine r_iconst h dX12_behindUnit_145 ?_
  exact r_ret2 hr dX12_behindUnit_146 (Or.inr rfl) hf
set_option maxRecDepth 20000 in
theorem b_Mo_behindUnit_104 {l : Launch} {D : va_G} {cs : Nat → ClassId} {aS aV : Nat} {A : Nat → Prop} {K : KT} {ad : Nat → Nat} {n : Nat} {nl : Nat → Nat → Bool} {out : Int × SS} (h : w_Cl l rm_Mo_behindUnit D cs aS aV A cX12_behindUnit 2 RX12 "behindUnit" K) (hr : w_Rt 2 cX12_behindUnit 0 0 (w_Po ad n nl out) K) (hw : w_WH n nl) (ht : 86 < n) (x1 : Int) (s0 : SS) (rx1 : rI x1) (hf : j_Mo_behindUnit_104 x1 s0 = some out) : K ad n nl 0 0 104 [(0, .ref (ad 86)), (1, .int (vI x1))] [] s0 := by
  unfold j_Mo_behindUnit_104 at hf
  refine r_rS h (fun hs0 => ?_)
  refine r_iload_n h dX12_behindUnit_104 rfl 1 rfl ?_
  refine r_if_le (tgt := 147) h dX12_behindUnit_105 (by decide) rx1 (fun hc1 => ?_) (fun hc1 => ?_)
  · have hf := ite_t hc1 hf
    refine r_aload_n h dX12_behindUnit_147 rfl 0 rfl ?_
    refine r_dup h dX12_behindUnit_148 rfl ?_
    refine g_X12_348 h dX12_behindUnit_149 ht rC_86 ?_
    refine r_iconst h dX12_behindUnit_152 ?_
    refine r_isub h dX12_behindUnit_153 ?_
    refine p_X12_348 h dX12_behindUnit_154 ht rC_86 (rI_iw _) ?_
    refine r_os hf (fun s2 hf => ?_)
    refine r_rS h (fun hs2 => ?_)
    refine r_aload_n h dX12_behindUnit_157 rfl 0 rfl ?_
    have hq3 := w_ref hw ht rC_86 (by decide) (k := 37) (by decide) rf_12_37
    refine g_X12_101 h dX12_behindUnit_158 ht rC_86 hq3.1 ?_
    refine r_aload_n h dX12_behindUnit_161 rfl 0 rfl ?_
    refine g_X12_348 h dX12_behindUnit_162 ht rC_86 ?_
    obtain ⟨hi4, hf⟩ := oc_some hf
    refine r_iald h dX12_behindUnit_165 hq3.2 rC_115 (hs2.1 _ _) (N := 90) (by rw [rN_115]; rfl) (j := (gi s2 86 44).toNat) rfl hi4 ?_
    refine r_bipush h dX12_behindUnit_166 (by decide) ?_
    refine r_icmp_ne (tgt := 191) h dX12_behindUnit_168 (by decide) (hs2.1 _ _) (rIc rfl) (fun hc5 => ?_) (fun hc5 => ?_)
    · have hf := ite_f hc5 hf
      refine r_iconst h dX12_behindUnit_191 ?_
      exact r_ret2 hr dX12_behindUnit_192 (Or.inl rfl) hf
    · have hf := ite_nf hc5 hf
      refine r_aload_n h dX12_behindUnit_171 rfl 0 rfl ?_
      refine r_dup h dX12_behindUnit_172 rfl ?_
      refine g_X12_351 h dX12_behindUnit_173 ht rC_86 ?_
      refine r_iconst h dX12_behindUnit_176 ?_
      refine r_isub h dX12_behindUnit_177 ?_
      refine p_X12_351 h dX12_behindUnit_178 ht rC_86 (rI_iw _) ?_
      refine r_os hf (fun s6 hf => ?_)
      refine r_rS h (fun hs6 => ?_)
      refine r_aload_n h dX12_behindUnit_181 rfl 0 rfl ?_
      refine r_aload_n h dX12_behindUnit_182 rfl 0 rfl ?_
      refine r_bipush h dX12_behindUnit_183 (by decide) ?_
      obtain ⟨r7, s7, hq7, hf⟩ := ob_some hf
      refine r_callV2 h [.int (vI 41)] dX12_behindUnit_185 (fun hs => m_Mo_isSignHere hw ht (rIc rfl) hs hq7) ml_X12_320 cv_Mo_isSignHere rfl (co := 12) rfl (by decide) ht rC_86 ⟨rfl, rfl⟩ ⟨Nat.le_of_ble_eq_true rfl, Nat.le_of_ble_eq_true rfl⟩ ⟨Nat.le_of_ble_eq_true rfl, Nat.le_of_ble_eq_true rfl⟩ (Nat.le_of_ble_eq_true rfl) rfl (fun hr7 hs7 => ?_)
      obtain ⟨r8, s8, hq8, hf⟩ := ob_some hf
      refine r_callV0 h [.int (vI r7)] dX12_behindUnit_188 (fun hs => m_Mo_must hw ht hr7 hs hq8) ml_X12_278 cv_Mo_must rfl (co := 12) rfl (by decide) ht rC_86 ⟨rfl, rfl⟩ ⟨Nat.le_of_ble_eq_true rfl, Nat.le_of_ble_eq_true rfl⟩ ⟨Nat.le_of_ble_eq_true rfl, Nat.le_of_ble_eq_true rfl⟩ (Nat.le_of_ble_eq_true rfl) rfl (fun hr8 hs8 => ?_)
      refine r_iconst h dX12_behindUnit_191 ?_
      exact r_ret2 hr dX12_behindUnit_192 (Or.inl rfl) hf
  · have hf := ite_f hc1 hf
    refine r_aload_n h dX12_behindUnit_108 rfl 0 rfl ?_
    refine r_iload_n h dX12_behindUnit_109 rfl 1 rfl ?_
    refine r_iload_n h dX12_behindUnit_110 rfl 1 rfl ?_
    refine r_iconst h dX12_behindUnit_111 ?_
    refine r_icmp_ne (tgt := 120) h dX12_behindUnit_112 (by decide) rx1 (rIc rfl) (fun hc9 => ?_) (fun hc9 => ?_)
    · have hf := ite_f hc9 hf
      refine r_iload_n h dX12_behindUnit_120 rfl 1 rfl ?_
      refine r_iconst h dX12_behindUnit_121 ?_
      refine r_icmp_ne (tgt := 130) h dX12_behindUnit_122 (by decide) rx1 (rIc rfl) (fun hc10 => ?_) (fun hc10 => ?_)
      · have hf := ite_f hc10 hf
        refine r_aload_n h dX12_behindUnit_130 rfl 0 rfl ?_
        refine r_aload_n h dX12_behindUnit_131 rfl 0 rfl ?_
        refine g_X12_230 h dX12_behindUnit_132 ht rC_86 ?_
        obtain ⟨r11, s11, hq11, hf⟩ := ob_some hf
        refine r_callV1 h [.int (vI (gi s0 86 6))] dX12_behindUnit_135 (fun hs => m_Mo_sign hw ht (hs0.1 _ _) hs hq11) ml_X12_233 cv_Mo_sign rfl (co := 12) rfl (by decide) ht rC_86 ⟨rfl, rfl⟩ ⟨Nat.le_of_ble_eq_true rfl, Nat.le_of_ble_eq_true rfl⟩ ⟨Nat.le_of_ble_eq_true rfl, Nat.le_of_ble_eq_true rfl⟩ (Nat.le_of_ble_eq_true rfl) rfl (fun hr11 hs11 => ?_)
        refine r_sub h [0] rfl ?_
        exact b_Mo_behindUnit_138 h hr hw ht x1 r11 s11 rx1 hr11 hf
      · have hf := ite_nf hc10 hf
        refine r_bipush h dX12_behindUnit_125 (by decide) ?_
        refine r_goto (tgt := 138) h dX12_behindUnit_127 (by decide) ?_
        refine r_sub h [0] rfl ?_
        exact b_Mo_behindUnit_138 h hr hw ht x1 124 s0 rx1 (rIc rfl) hf
    · have hf := ite_nf hc9 hf
      refine r_bipush h dX12_behindUnit_115 (by decide) ?_
      refine r_goto (tgt := 138) h dX12_behindUnit_117 (by decide) ?_
      refine r_sub h [0] rfl ?_
      exact b_Mo_behindUnit_138 h hr hw ht x1 38 s0 rx1 (rIc rfl) hf
set_option maxRecDepth 20000 in
theorem b_Mo_behindUnit_23 {l : Launch} {D : va_G} {cs : Nat → ClassId} {aS aV : Nat} {A : Nat → Prop} {K : KT} {ad : Nat → Nat} {n : Nat} {nl : Nat → Nat → Bool} {out : Int × SS} (h : w_Cl l rm_Mo_behindUnit D cs aS aV A cX12_behindUnit 2 RX12 "behindUnit" K) (hr : w_Rt 2 cX12_behindUnit 0 0 (w_Po ad n nl out) K) (hw : w_WH n nl) (ht : 86 < n) {y1 : Int} (ry1 : rI y1) : ∀ (fu : Nat) (s0 : SS), l_Mo_behindUnit_23 y1 fu s0 = some out → K ad n nl 0 0 23 [(0, .ref (ad 86)), (1, .int (vI y1))] [] s0 := by
  intro fu
  induction fu with
  | zero =>
    intro s0 hf
    rw [l_Mo_behindUnit_23] at hf
    cases hf
  | succ fu ih =>
    intro s0 hf
    rw [l_Mo_behindUnit_23] at hf
    refine r_rS h (fun hs0 => ?_)
    refine r_aload_n h dX12_behindUnit_23 rfl 0 rfl ?_
    have hq1 := w_ref hw ht rC_86 (by decide) (k := 37) (by decide) rf_12_37
    refine g_X12_101 h dX12_behindUnit_24 ht rC_86 hq1.1 ?_
    refine r_aload_n h dX12_behindUnit_27 rfl 0 rfl ?_
    refine g_X12_348 h dX12_behindUnit_28 ht rC_86 ?_
    refine r_iconst h dX12_behindUnit_31 ?_
    refine r_isub h dX12_behindUnit_32 ?_
    obtain ⟨hi2, hf⟩ := oc_some hf
    refine r_iald h dX12_behindUnit_33 hq1.2 rC_115 (rI_iw _) (N := 90) (by rw [rN_115]; rfl) (j := (iw ((gi s0 86 44) - 1)).toNat) rfl hi2 ?_
    refine r_bipush h dX12_behindUnit_34 (by decide) ?_
    refine r_icmp_gt (tgt := 104) h dX12_behindUnit_36 (by decide) (hs0.1 _ _) (rIc rfl) (fun hc3 => ?_) (fun hc3 => ?_)
    · have hf := ite_t hc3 hf
      exact b_Mo_behindUnit_104 h hr hw ht y1 s0 ry1 hf
    · have hf := ite_f hc3 hf
      refine r_aload_n h dX12_behindUnit_39 rfl 0 rfl ?_
      have hq4 := w_ref hw ht rC_86 (by decide) (k := 37) (by decide) rf_12_37
      refine g_X12_101 h dX12_behindUnit_40 ht rC_86 hq4.1 ?_
      refine r_aload_n h dX12_behindUnit_43 rfl 0 rfl ?_
      refine g_X12_348 h dX12_behindUnit_44 ht rC_86 ?_
      refine r_iconst h dX12_behindUnit_47 ?_
      refine r_isub h dX12_behindUnit_48 ?_
      obtain ⟨hi5, hf⟩ := oc_some hf
      refine r_iald h dX12_behindUnit_49 hq4.2 rC_115 (rI_iw _) (N := 90) (by rw [rN_115]; rfl) (j := (iw ((gi s0 86 44) - 1)).toNat) rfl hi5 ?_
      refine r_iload_n h dX12_behindUnit_50 rfl 1 rfl ?_
      refine r_icmp_lt (tgt := 104) h dX12_behindUnit_51 (by decide) (hs0.1 _ _) ry1 (fun hc6 => ?_) (fun hc6 => ?_)
      · have hf := ite_t hc6 hf
        exact b_Mo_behindUnit_104 h hr hw ht y1 s0 ry1 hf
      · have hf := ite_f hc6 hf
        refine r_aload_n h dX12_behindUnit_54 rfl 0 rfl ?_
        refine r_dup h dX12_behindUnit_55 rfl ?_
        refine g_X12_348 h dX12_behindUnit_56 ht rC_86 ?_
        refine r_iconst h dX12_behindUnit_59 ?_
        refine r_isub h dX12_behindUnit_60 ?_
        refine p_X12_348 h dX12_behindUnit_61 ht rC_86 (rI_iw _) ?_
        refine r_os hf (fun s7 hf => ?_)
        refine r_rS h (fun hs7 => ?_)
        refine r_aload_n h dX12_behindUnit_64 rfl 0 rfl ?_
        have hq8 := w_ref hw ht rC_86 (by decide) (k := 37) (by decide) rf_12_37
        refine g_X12_101 h dX12_behindUnit_65 ht rC_86 hq8.1 ?_
        refine r_aload_n h dX12_behindUnit_68 rfl 0 rfl ?_
        refine g_X12_348 h dX12_behindUnit_69 ht rC_86 ?_
        obtain ⟨hi9, hf⟩ := oc_some hf
        refine r_iald h dX12_behindUnit_72 hq8.2 rC_115 (hs7.1 _ _) (N := 90) (by rw [rN_115]; rfl) (j := (gi s7 86 44).toNat) rfl hi9 ?_
        refine r_iconst h dX12_behindUnit_73 ?_
        refine r_icmp_ne (tgt := 87) h dX12_behindUnit_74 (by decide) (hs7.1 _ _) (rIc rfl) (fun hc10 => ?_) (fun hc10 => ?_)
        · have hf := ite_f hc10 hf
          exact b_Mo_behindUnit_87 h hr hw ht y1 (l_Mo_behindUnit_23 y1 fu) ih s7 ry1 hf
        · have hf := ite_nf hc10 hf
          refine r_aload_n h dX12_behindUnit_77 rfl 0 rfl ?_
          refine r_dup h dX12_behindUnit_78 rfl ?_
          refine g_X12_351 h dX12_behindUnit_79 ht rC_86 ?_
          refine r_iconst h dX12_behindUnit_82 ?_
          refine r_isub h dX12_behindUnit_83 ?_
          refine p_X12_351 h dX12_behindUnit_84 ht rC_86 (rI_iw _) ?_
          refine r_os hf (fun s11 hf => ?_)
          refine r_rS h (fun hs11 => ?_)
          exact b_Mo_behindUnit_87 h hr hw ht y1 (l_Mo_behindUnit_23 y1 fu) ih s11 ry1 hf
set_option maxRecDepth 20000 in
theorem m_Mo_behindUnit {l : Launch} {D : va_G} {cs : Nat → ClassId} {aS aV : Nat} {A : Nat → Prop} {ad : Nat → Nat} {n : Nat} {nl : Nat → Nat → Bool} {out : Int × SS} (hw : w_WH n nl) (ht : 86 < n) {s0 : SS} (hs0 : rS s0) (hf : f_Mo_behindUnit s0 = some out) : w_MC l D cs aS aV A yX12_behindUnit cX12_behindUnit 2 2 rm_Mo_behindUnit ad n nl [.ref (ad 86)] s0 (w_Po ad n nl out) := by
  refine w_MC_of (by decide +kernel) (by decide) hs0 (Nat.le_of_ble_eq_true rfl) (fun K h hr => ?_)
  refine r_lv (lv' := [(0, .ref (ad 86))]) rfl ?_
  unfold f_Mo_behindUnit at hf
  refine r_rS h (fun hs0 => ?_)
  refine r_aload_n h dX12_behindUnit_0 rfl 0 rfl ?_
  obtain ⟨r1, s1, hq1, hf⟩ := ob_some hf
  refine r_callV1 h [] dX12_behindUnit_1 (fun hs => m_Mo_rankHere hw ht hs hq1) ml_X12_369 cv_Mo_rankHere rfl (co := 12) rfl (by decide) ht rC_86 ⟨rfl, rfl⟩ ⟨Nat.le_of_ble_eq_true rfl, Nat.le_of_ble_eq_true rfl⟩ ⟨Nat.le_of_ble_eq_true rfl, Nat.le_of_ble_eq_true rfl⟩ (Nat.le_of_ble_eq_true rfl) rfl (fun hr1 hs1 => ?_)
  refine r_istore_n h [(1, .int (vI r1)), (0, .ref (ad 86))] dX12_behindUnit_4 rfl (by decide) rfl ?_
  refine r_iload_n h dX12_behindUnit_5 rfl 0 rfl ?_
  refine r_iconst h dX12_behindUnit_6 ?_
  refine r_icmp_ne (tgt := 23) h dX12_behindUnit_7 (by decide) hr1 (rIc rfl) (fun hc2 => ?_) (fun hc2 => ?_)
  · have hf := ite_f hc2 hf
    refine r_sub h [1, 0] rfl ?_
    exact b_Mo_behindUnit_23 h hr hw ht hr1 FU s1 hf
  · have hf := ite_nf hc2 hf
    refine r_aload_n h dX12_behindUnit_10 rfl 1 rfl ?_
    obtain ⟨r3, s3, hq3, hf⟩ := ob_some hf
    refine r_callV2 h [] dX12_behindUnit_11 (fun hs => m_Mo_isCompared hw ht hs hq3) ml_X12_372 cv_Mo_isCompared rfl (co := 12) rfl (by decide) ht rC_86 ⟨rfl, rfl⟩ ⟨Nat.le_of_ble_eq_true rfl, Nat.le_of_ble_eq_true rfl⟩ ⟨Nat.le_of_ble_eq_true rfl, Nat.le_of_ble_eq_true rfl⟩ (Nat.le_of_ble_eq_true rfl) rfl (fun hr3 hs3 => ?_)
    refine r_if_eq (tgt := 23) h dX12_behindUnit_14 (by decide) (rI_b hr3) (fun hc4 => ?_) (fun hc4 => ?_)
    · have hf := ite_t hc4 hf
      refine r_sub h [1, 0] rfl ?_
      exact b_Mo_behindUnit_23 h hr hw ht hr1 FU s3 hf
    · have hf := ite_f hc4 hf
      refine r_aload_n h dX12_behindUnit_17 rfl 1 rfl ?_
      obtain ⟨r5, s5, hq5, hf⟩ := ob_some hf
      refine r_callV0 h [] dX12_behindUnit_18 (fun hs => m_Mo_misplaced hw ht hs hq5) ml_X12_272 cv_Mo_misplaced rfl (co := 12) rfl (by decide) ht rC_86 ⟨rfl, rfl⟩ ⟨Nat.le_of_ble_eq_true rfl, Nat.le_of_ble_eq_true rfl⟩ ⟨Nat.le_of_ble_eq_true rfl, Nat.le_of_ble_eq_true rfl⟩ (Nat.le_of_ble_eq_true rfl) rfl (fun hr5 hs5 => ?_)
      refine r_iconst h dX12_behindUnit_21 ?_
      exact r_ret2 hr dX12_behindUnit_22 (Or.inr rfl) hf
set_option maxRecDepth 20000 in
theorem b_Mo_e_19 {l : Launch} {D : va_G} {cs : Nat → ClassId} {aS aV : Nat} {A : Nat → Prop} {K : KT} {ad : Nat → Nat} {n : Nat} {nl : Nat → Nat → Bool} {out : Int × SS} (h : w_Cl l rm_Mo_e D cs aS aV A cX12_e 2 RX12 "e" K) (hr : w_Rt 0 cX12_e 0 0 (w_Po ad n nl out) K) (hw : w_WH n nl) (ht : 86 < n) : ∀ (fu : Nat) (x1 : Int) (s0 : SS), rI x1 → l_Mo_e_19 fu x1 s0 = some out → K ad n nl 0 0 19 [(0, .ref (ad 86)), (1, .int (vI x1))] [] s0 := by
  intro fu
  induction fu with
  | zero =>
    intro x1 s0 rx1 hf
    rw [l_Mo_e_19] at hf
    cases hf
  | succ fu ih =>
    intro x1 s0 rx1 hf
    rw [l_Mo_e_19] at hf
    refine r_rS h (fun hs0 => ?_)
    refine r_aload_n h dX12_e_19 rfl 0 rfl ?_
    obtain ⟨r1, s1, hq1, hf⟩ := ob_some hf
    refine r_callV2 h [] dX12_e_20 (fun hs => m_Mo_isGood hw ht hs hq1) ml_X12_265 cv_Mo_isGood rfl (co := 12) rfl (by decide) ht rC_86 ⟨rfl, rfl⟩ ⟨Nat.le_of_ble_eq_true rfl, Nat.le_of_ble_eq_true rfl⟩ ⟨Nat.le_of_ble_eq_true rfl, Nat.le_of_ble_eq_true rfl⟩ (Nat.le_of_ble_eq_true rfl) rfl (fun hr1 hs1 => ?_)
    refine r_if_eq (tgt := 52) h dX12_e_23 (by decide) (rI_b hr1) (fun hc2 => ?_) (fun hc2 => ?_)
    · have hf := ite_t hc2 hf
      exact r_ret0 (x := 0) hr dX12_e_52 hf
    · have hf := ite_f hc2 hf
      refine r_aload_n h dX12_e_26 rfl 0 rfl ?_
      refine g_X12_348 h dX12_e_27 ht rC_86 ?_
      refine r_if_le (tgt := 52) h dX12_e_30 (by decide) (hs1.1 _ _) (fun hc3 => ?_) (fun hc3 => ?_)
      · have hf := ite_t hc3 hf
        exact r_ret0 (x := 0) hr dX12_e_52 hf
      · have hf := ite_f hc3 hf
        refine r_iload_n h dX12_e_33 rfl 1 rfl ?_
        refine r_if_eq (tgt := 44) h dX12_e_34 (by decide) rx1 (fun hc4 => ?_) (fun hc4 => ?_)
        · have hf := ite_t hc4 hf
          refine r_aload_n h dX12_e_44 rfl 0 rfl ?_
          obtain ⟨r5, s5, hq5, hf⟩ := ob_some hf
          refine r_callV2 h [] dX12_e_45 (fun hs => m_Mo_behindUnit hw ht hs hq5) ml_X12_360 cv_Mo_behindUnit rfl (co := 12) rfl (by decide) ht rC_86 ⟨rfl, rfl⟩ ⟨Nat.le_of_ble_eq_true rfl, Nat.le_of_ble_eq_true rfl⟩ ⟨Nat.le_of_ble_eq_true rfl, Nat.le_of_ble_eq_true rfl⟩ (Nat.le_of_ble_eq_true rfl) rfl (fun hr5 hs5 => ?_)
          refine r_istore_n h [(1, .int (vI r5)), (0, .ref (ad 86))] dX12_e_48 rfl (by decide) rfl ?_
          refine r_goto (tgt := 19) h dX12_e_49 (by decide) ?_
          refine r_sub h [1, 0] rfl ?_
          exact ih r5 s5 (rI_b hr5) hf
        · have hf := ite_f hc4 hf
          refine r_aload_n h dX12_e_37 rfl 0 rfl ?_
          obtain ⟨r6, s6, hq6, hf⟩ := ob_some hf
          refine r_callV2 h [] dX12_e_38 (fun hs => m_Mo_unit hw ht hs hq6) ml_X12_357 cv_Mo_unit rfl (co := 12) rfl (by decide) ht rC_86 ⟨rfl, rfl⟩ ⟨Nat.le_of_ble_eq_true rfl, Nat.le_of_ble_eq_true rfl⟩ ⟨Nat.le_of_ble_eq_true rfl, Nat.le_of_ble_eq_true rfl⟩ (Nat.le_of_ble_eq_true rfl) rfl (fun hr6 hs6 => ?_)
          refine r_goto (tgt := 48) h dX12_e_41 (by decide) ?_
          refine r_istore_n h [(1, .int (vI r6)), (0, .ref (ad 86))] dX12_e_48 rfl (by decide) rfl ?_
          refine r_goto (tgt := 19) h dX12_e_49 (by decide) ?_
          refine r_sub h [1, 0] rfl ?_
          exact ih r6 s6 (rI_b hr6) hf
set_option maxRecDepth 20000 in
theorem m_Mo_e {l : Launch} {D : va_G} {cs : Nat → ClassId} {aS aV : Nat} {A : Nat → Prop} {ad : Nat → Nat} {n : Nat} {nl : Nat → Nat → Bool} {out : Int × SS} (hw : w_WH n nl) (ht : 86 < n) {s0 : SS} (hs0 : rS s0) (hf : f_Mo_e s0 = some out) : w_MC l D cs aS aV A yX12_e cX12_e 2 0 rm_Mo_e ad n nl [.ref (ad 86)] s0 (w_Po ad n nl out) := by
  refine w_MC_of (by decide +kernel) (by decide) hs0 (Nat.le_of_ble_eq_true rfl) (fun K h hr => ?_)
  refine r_lv (lv' := [(0, .ref (ad 86))]) rfl ?_
  unfold f_Mo_e at hf
  refine r_rS h (fun hs0 => ?_)
  refine r_aload_n h dX12_e_0 rfl 0 rfl ?_
  refine r_iconst h dX12_e_1 ?_
  refine p_X12_348 h dX12_e_2 ht rC_86 (rIc rfl) ?_
  refine r_os hf (fun s1 hf => ?_)
  refine r_rS h (fun hs1 => ?_)
  refine r_aload_n h dX12_e_5 rfl 0 rfl ?_
  refine r_iconst h dX12_e_6 ?_
  refine p_X12_351 h dX12_e_7 ht rC_86 (rIc rfl) ?_
  refine r_os hf (fun s2 hf => ?_)
  refine r_rS h (fun hs2 => ?_)
  refine r_aload_n h dX12_e_10 rfl 0 rfl ?_
  refine r_bipush h dX12_e_11 (by decide) ?_
  refine r_iconst h dX12_e_13 ?_
  obtain ⟨r3, s3, hq3, hf⟩ := ob_some hf
  refine r_callV0 h [.int (vI 8), .int (vI 0)] dX12_e_14 (fun hs => m_Mo_pushE hw ht (rIc rfl) (rIc rfl) hs hq3) ml_X12_354 cv_Mo_pushE rfl (co := 12) rfl (by decide) ht rC_86 ⟨rfl, rfl⟩ ⟨Nat.le_of_ble_eq_true rfl, Nat.le_of_ble_eq_true rfl⟩ ⟨Nat.le_of_ble_eq_true rfl, Nat.le_of_ble_eq_true rfl⟩ (Nat.le_of_ble_eq_true rfl) rfl (fun hr3 hs3 => ?_)
  refine r_iconst h dX12_e_17 ?_
  refine r_istore_n h [(1, .int (vI 1)), (0, .ref (ad 86))] dX12_e_18 rfl (by decide) rfl ?_
  refine r_sub h [1, 0] rfl ?_
  exact b_Mo_e_19 h hr hw ht FU 1 s3 (rIc rfl) hf
set_option maxRecDepth 20000 in
theorem m_Mo_readRule {l : Launch} {D : va_G} {cs : Nat → ClassId} {aS aV : Nat} {A : Nat → Prop} {ad : Nat → Nat} {n : Nat} {nl : Nat → Nat → Bool} {out : Int × SS} (hw : w_WH n nl) (ht : 86 < n) {a1 : Int} (ra1 : rI a1) {s0 : SS} (hs0 : rS s0) (hf : f_Mo_readRule a1 s0 = some out) : w_MC l D cs aS aV A yX12_readRule cX12_readRule 2 0 rm_Mo_readRule ad n nl [.ref (ad 86), .int (vI a1)] s0 (w_Po ad n nl out) := by
  refine w_MC_of (by decide +kernel) (by decide) hs0 (Nat.le_of_ble_eq_true rfl) (fun K h hr => ?_)
  refine r_lv (lv' := [(0, .ref (ad 86)), (1, .int (vI a1))]) rfl ?_
  unfold f_Mo_readRule at hf
  refine r_rS h (fun hs0 => ?_)
  refine r_aload_n h dX12_readRule_0 rfl 0 rfl ?_
  refine r_iconst h dX12_readRule_1 ?_
  refine p_X12_342 h dX12_readRule_2 ht rC_86 (rIc rfl) ?_
  refine r_os hf (fun s1 hf => ?_)
  refine r_rS h (fun hs1 => ?_)
  refine r_aload_n h dX12_readRule_5 rfl 0 rfl ?_
  have hq2 := w_ref hw ht rC_86 (by decide) (k := 31) (by decide) rf_12_31
  refine g_X12_82 h dX12_readRule_6 ht rC_86 hq2.1 ?_
  refine r_iconst h dX12_readRule_9 ?_
  refine r_aload_n h dX12_readRule_10 rfl 0 rfl ?_
  refine g_X12_286 h dX12_readRule_11 ht rC_86 ?_
  refine r_imul h dX12_readRule_14 ?_
  refine r_iload_n h dX12_readRule_15 rfl 1 rfl ?_
  refine r_iadd h dX12_readRule_16 ?_
  refine r_iconst h dX12_readRule_17 ?_
  obtain ⟨hi3, hf⟩ := oc_some hf
  refine r_zast h dX12_readRule_18 hq2.2 rC_109 (rI_iw _) (N := 4) (by rw [rN_109]; rfl) (j := (iw ((iw (2 * (gi s1 86 41))) + a1)).toNat) rfl hi3 (Or.inr rfl) ?_
  refine r_os hf (fun s4 hf => ?_)
  refine r_rS h (fun hs4 => ?_)
  refine r_aload_n h dX12_readRule_19 rfl 0 rfl ?_
  have hq5 := w_ref hw ht rC_86 (by decide) (k := 28) (by decide) rf_12_28
  refine g_X12_72 h dX12_readRule_20 ht rC_86 hq5.1 ?_
  refine r_iconst h dX12_readRule_23 ?_
  refine r_aload_n h dX12_readRule_24 rfl 0 rfl ?_
  refine g_X12_286 h dX12_readRule_25 ht rC_86 ?_
  refine r_imul h dX12_readRule_28 ?_
  refine r_iload_n h dX12_readRule_29 rfl 1 rfl ?_
  refine r_iadd h dX12_readRule_30 ?_
  refine r_aload_n h dX12_readRule_31 rfl 0 rfl ?_
  refine g_X12_289 h dX12_readRule_32 ht rC_86 ?_
  obtain ⟨hi6, hf⟩ := oc_some hf
  refine r_iast h dX12_readRule_35 hq5.2 rC_106 (rI_iw _) (N := 4) (by rw [rN_106]; rfl) (j := (iw ((iw (2 * (gi s4 86 41))) + a1)).toNat) rfl hi6 (hs4.1 _ _) ?_
  refine r_os hf (fun s7 hf => ?_)
  refine r_rS h (fun hs7 => ?_)
  refine r_aload_n h dX12_readRule_36 rfl 0 rfl ?_
  obtain ⟨r8, s8, hq8, hf⟩ := ob_some hf
  refine r_callV0 h [] dX12_readRule_37 (fun hs => m_Mo_e hw ht hs hq8) ml_X12_345 cv_Mo_e rfl (co := 12) rfl (by decide) ht rC_86 ⟨rfl, rfl⟩ ⟨Nat.le_of_ble_eq_true rfl, Nat.le_of_ble_eq_true rfl⟩ ⟨Nat.le_of_ble_eq_true rfl, Nat.le_of_ble_eq_true rfl⟩ (Nat.le_of_ble_eq_true rfl) rfl (fun hr8 hs8 => ?_)
  refine r_aload_n h dX12_readRule_40 rfl 0 rfl ?_
  have hq9 := w_ref hw ht rC_86 (by decide) (k := 29) (by decide) rf_12_29
  refine g_X12_75 h dX12_readRule_41 ht rC_86 hq9.1 ?_
  refine r_iconst h dX12_readRule_44 ?_
  refine r_aload_n h dX12_readRule_45 rfl 0 rfl ?_
  refine g_X12_286 h dX12_readRule_46 ht rC_86 ?_
  refine r_imul h dX12_readRule_49 ?_
  refine r_iload_n h dX12_readRule_50 rfl 1 rfl ?_
  refine r_iadd h dX12_readRule_51 ?_
  refine r_aload_n h dX12_readRule_52 rfl 0 rfl ?_
  refine g_X12_289 h dX12_readRule_53 ht rC_86 ?_
  obtain ⟨hi10, hf⟩ := oc_some hf
  refine r_iast h dX12_readRule_56 hq9.2 rC_107 (rI_iw _) (N := 4) (by rw [rN_107]; rfl) (j := (iw ((iw (2 * (gi s8 86 41))) + a1)).toNat) rfl hi10 (hs8.1 _ _) ?_
  refine r_os hf (fun s11 hf => ?_)
  refine r_rS h (fun hs11 => ?_)
  exact r_ret0 (x := 0) hr dX12_readRule_57 hf
set_option maxRecDepth 20000 in
theorem b_Mo_readLine_145 {l : Launch} {D : va_G} {cs : Nat → ClassId} {aS aV : Nat} {A : Nat → Prop} {K : KT} {ad : Nat → Nat} {n : Nat} {nl : Nat → Nat → Bool} {out : Int × SS} (h : w_Cl l rm_Mo_readLine D cs aS aV A cX12_readLine 3 RX12 "readLine" K) (hr : w_Rt 0 cX12_readLine 0 0 (w_Po ad n nl out) K) (hw : w_WH n nl) (ht : 86 < n) (s0 : SS) (hf : j_Mo_readLine_145 s0 = some out) : K ad n nl 0 0 145 [(0, .ref (ad 86))] [] s0 := by
  unfold j_Mo_readLine_145 at hf
  refine r_rS h (fun hs0 => ?_)
  refine r_aload_n h dX12_readLine_145 rfl 0 rfl ?_
  refine r_aload_n h dX12_readLine_146 rfl 0 rfl ?_
  refine r_bipush h dX12_readLine_147 (by decide) ?_
  obtain ⟨r1, s1, hq1, hf⟩ := ob_some hf
  refine r_callV2 h [.int (vI 59)] dX12_readLine_149 (fun hs => m_Mo_isSignHere hw ht (rIc rfl) hs hq1) ml_X12_320 cv_Mo_isSignHere rfl (co := 12) rfl (by decide) ht rC_86 ⟨rfl, rfl⟩ ⟨Nat.le_of_ble_eq_true rfl, Nat.le_of_ble_eq_true rfl⟩ ⟨Nat.le_of_ble_eq_true rfl, Nat.le_of_ble_eq_true rfl⟩ (Nat.le_of_ble_eq_true rfl) rfl (fun hr1 hs1 => ?_)
  obtain ⟨r2, s2, hq2, hf⟩ := ob_some hf
  refine r_callV0 h [.int (vI r1)] dX12_readLine_152 (fun hs => m_Mo_must hw ht hr1 hs hq2) ml_X12_278 cv_Mo_must rfl (co := 12) rfl (by decide) ht rC_86 ⟨rfl, rfl⟩ ⟨Nat.le_of_ble_eq_true rfl, Nat.le_of_ble_eq_true rfl⟩ ⟨Nat.le_of_ble_eq_true rfl, Nat.le_of_ble_eq_true rfl⟩ (Nat.le_of_ble_eq_true rfl) rfl (fun hr2 hs2 => ?_)
  exact r_ret0 (x := 0) hr dX12_readLine_155 hf
set_option maxRecDepth 20000 in
theorem b_Mo_readLine_110 {l : Launch} {D : va_G} {cs : Nat → ClassId} {aS aV : Nat} {A : Nat → Prop} {K : KT} {ad : Nat → Nat} {n : Nat} {nl : Nat → Nat → Bool} {out : Int × SS} (h : w_Cl l rm_Mo_readLine D cs aS aV A cX12_readLine 3 RX12 "readLine" K) (hr : w_Rt 0 cX12_readLine 0 0 (w_Po ad n nl out) K) (hw : w_WH n nl) (ht : 86 < n) (x1 : Int) (s0 : SS) (rx1 : rJ x1) (hf : j_Mo_readLine_110 x1 s0 = some out) : K ad n nl 0 0 110 [(0, .ref (ad 86)), (1, .long (vJ x1))] [] s0 := by
  unfold j_Mo_readLine_110 at hf
  refine r_rS h (fun hs0 => ?_)
  refine r_lload_n h dX12_readLine_110 rfl 1 rfl ?_
  refine r_ldc2 (x := 1685217655) h dX12_readLine_111 (gt_in7 138 rfl rfl) rfl ?_
  refine r_lcmp h dX12_readLine_114 rx1 (rJc rfl) ?_
  refine r_if_ne (tgt := 145) h dX12_readLine_115 (by decide) (rI_ycmp _ _) (fun hc1 => ?_) (fun hc1 => ?_)
  · have hf := ite_f hc1 hf
    refine r_sub h [0] rfl ?_
    exact b_Mo_readLine_145 h hr hw ht s0 hf
  · have hf := ite_nf hc1 hf
    refine r_aload_n h dX12_readLine_118 rfl 0 rfl ?_
    have hq2 := w_ref hw ht rC_86 (by decide) (k := 30) (by decide) rf_12_30
    refine g_X12_78 h dX12_readLine_119 ht rC_86 hq2.1 ?_
    refine r_aload_n h dX12_readLine_122 rfl 0 rfl ?_
    refine g_X12_286 h dX12_readLine_123 ht rC_86 ?_
    refine r_iconst h dX12_readLine_126 ?_
    obtain ⟨hi3, hf⟩ := oc_some hf
    refine r_zast h dX12_readLine_127 hq2.2 rC_108 (hs0.1 _ _) (N := 2) (by rw [rN_108]; rfl) (j := (gi s0 86 41).toNat) rfl hi3 (Or.inr rfl) ?_
    refine r_os hf (fun s4 hf => ?_)
    refine r_rS h (fun hs4 => ?_)
    refine r_aload_n h dX12_readLine_128 rfl 0 rfl ?_
    have hq5 := w_ref hw ht rC_86 (by decide) (k := 16) (by decide) rf_12_16
    refine g_X12_36 h dX12_readLine_129 ht rC_86 hq5.1 ?_
    refine r_aload_n h dX12_readLine_132 rfl 0 rfl ?_
    refine g_X12_286 h dX12_readLine_133 ht rC_86 ?_
    refine r_aload_n h dX12_readLine_136 rfl 0 rfl ?_
    refine r_iconst h dX12_readLine_137 ?_
    refine r_sipush h dX12_readLine_138 (by decide) ?_
    obtain ⟨r6, s6, hq6, hf⟩ := ob_some hf
    refine r_callV1 h [.int (vI 0), .int (vI 999)] dX12_readLine_141 (fun hs => m_Mo_numeral hw ht (rIc rfl) (rIc rfl) hs hq6) ml_X12_282 cv_Mo_numeral rfl (co := 12) rfl (by decide) ht rC_86 ⟨rfl, rfl⟩ ⟨Nat.le_of_ble_eq_true rfl, Nat.le_of_ble_eq_true rfl⟩ ⟨Nat.le_of_ble_eq_true rfl, Nat.le_of_ble_eq_true rfl⟩ (Nat.le_of_ble_eq_true rfl) rfl (fun hr6 hs6 => ?_)
    obtain ⟨hi7, hf⟩ := oc_some hf
    refine r_iast h dX12_readLine_144 hq5.2 rC_94 (hs4.1 _ _) (N := 2) (by rw [rN_94]; rfl) (j := (gi s4 86 41).toNat) rfl hi7 hr6 ?_
    refine r_os hf (fun s8 hf => ?_)
    refine r_rS h (fun hs8 => ?_)
    refine r_sub h [0] rfl ?_
    exact b_Mo_readLine_145 h hr hw ht s8 hf
set_option maxRecDepth 20000 in
theorem b_Mo_readLine_97 {l : Launch} {D : va_G} {cs : Nat → ClassId} {aS aV : Nat} {A : Nat → Prop} {K : KT} {ad : Nat → Nat} {n : Nat} {nl : Nat → Nat → Bool} {out : Int × SS} (h : w_Cl l rm_Mo_readLine D cs aS aV A cX12_readLine 3 RX12 "readLine" K) (hr : w_Rt 0 cX12_readLine 0 0 (w_Po ad n nl out) K) (hw : w_WH n nl) (ht : 86 < n) (x1 : Int) (s0 : SS) (rx1 : rJ x1) (hf : j_Mo_readLine_97 x1 s0 = some out) : K ad n nl 0 0 97 [(0, .ref (ad 86)), (1, .long (vJ x1))] [] s0 := by
  unfold j_Mo_readLine_97 at hf
  refine r_rS h (fun hs0 => ?_)
  refine r_lload_n h dX12_readLine_97 rfl 1 rfl ?_
  refine r_ldc2 (x := 1650549611) h dX12_readLine_98 (gt_in7 137 rfl rfl) rfl ?_
  refine r_lcmp h dX12_readLine_101 rx1 (rJc rfl) ?_
  refine r_if_ne (tgt := 110) h dX12_readLine_102 (by decide) (rI_ycmp _ _) (fun hc1 => ?_) (fun hc1 => ?_)
  · have hf := ite_f hc1 hf
    exact b_Mo_readLine_110 h hr hw ht x1 s0 rx1 hf
  · have hf := ite_nf hc1 hf
    refine r_aload_n h dX12_readLine_105 rfl 0 rfl ?_
    refine r_iconst h dX12_readLine_106 ?_
    obtain ⟨r2, s2, hq2, hf⟩ := ob_some hf
    refine r_callV0 h [.int (vI 1)] dX12_readLine_107 (fun hs => m_Mo_readRule hw ht (rIc rfl) hs hq2) ml_X12_316 cv_Mo_readRule rfl (co := 12) rfl (by decide) ht rC_86 ⟨rfl, rfl⟩ ⟨Nat.le_of_ble_eq_true rfl, Nat.le_of_ble_eq_true rfl⟩ ⟨Nat.le_of_ble_eq_true rfl, Nat.le_of_ble_eq_true rfl⟩ (Nat.le_of_ble_eq_true rfl) rfl (fun hr2 hs2 => ?_)
    exact b_Mo_readLine_110 h hr hw ht x1 s2 rx1 hf
set_option maxRecDepth 20000 in
theorem b_Mo_readLine_84 {l : Launch} {D : va_G} {cs : Nat → ClassId} {aS aV : Nat} {A : Nat → Prop} {K : KT} {ad : Nat → Nat} {n : Nat} {nl : Nat → Nat → Bool} {out : Int × SS} (h : w_Cl l rm_Mo_readLine D cs aS aV A cX12_readLine 3 RX12 "readLine" K) (hr : w_Rt 0 cX12_readLine 0 0 (w_Po ad n nl out) K) (hw : w_WH n nl) (ht : 86 < n) (x1 : Int) (s0 : SS) (rx1 : rJ x1) (hf : j_Mo_readLine_84 x1 s0 = some out) : K ad n nl 0 0 84 [(0, .ref (ad 86)), (1, .long (vJ x1))] [] s0 := by
  unfold j_Mo_readLine_84 at hf
  refine r_rS h (fun hs0 => ?_)
  refine r_lload_n h dX12_readLine_84 rfl 1 rfl ?_
  refine r_ldc2 (x := 1751474548) h dX12_readLine_85 (gt_in7 136 rfl rfl) rfl ?_
  refine r_lcmp h dX12_readLine_88 rx1 (rJc rfl) ?_
  refine r_if_ne (tgt := 97) h dX12_readLine_89 (by decide) (rI_ycmp _ _) (fun hc1 => ?_) (fun hc1 => ?_)
  · have hf := ite_f hc1 hf
    exact b_Mo_readLine_97 h hr hw ht x1 s0 rx1 hf
  · have hf := ite_nf hc1 hf
    refine r_aload_n h dX12_readLine_92 rfl 0 rfl ?_
    refine r_iconst h dX12_readLine_93 ?_
    obtain ⟨r2, s2, hq2, hf⟩ := ob_some hf
    refine r_callV0 h [.int (vI 0)] dX12_readLine_94 (fun hs => m_Mo_readRule hw ht (rIc rfl) hs hq2) ml_X12_316 cv_Mo_readRule rfl (co := 12) rfl (by decide) ht rC_86 ⟨rfl, rfl⟩ ⟨Nat.le_of_ble_eq_true rfl, Nat.le_of_ble_eq_true rfl⟩ ⟨Nat.le_of_ble_eq_true rfl, Nat.le_of_ble_eq_true rfl⟩ (Nat.le_of_ble_eq_true rfl) rfl (fun hr2 hs2 => ?_)
    exact b_Mo_readLine_97 h hr hw ht x1 s2 rx1 hf
set_option maxRecDepth 20000 in
theorem b_Mo_readLine_72 {l : Launch} {D : va_G} {cs : Nat → ClassId} {aS aV : Nat} {A : Nat → Prop} {K : KT} {ad : Nat → Nat} {n : Nat} {nl : Nat → Nat → Bool} {out : Int × SS} (h : w_Cl l rm_Mo_readLine D cs aS aV A cX12_readLine 3 RX12 "readLine" K) (hr : w_Rt 0 cX12_readLine 0 0 (w_Po ad n nl out) K) (hw : w_WH n nl) (ht : 86 < n) (x1 : Int) (s0 : SS) (rx1 : rJ x1) (hf : j_Mo_readLine_72 x1 s0 = some out) : K ad n nl 0 0 72 [(0, .ref (ad 86)), (1, .long (vJ x1))] [] s0 := by
  unfold j_Mo_readLine_72 at hf
  refine r_rS h (fun hs0 => ?_)
  refine r_lload_n h dX12_readLine_72 rfl 1 rfl ?_
  refine r_ldc2 (x := 120265333040498) h dX12_readLine_73 (gt_in7 133 rfl rfl) rfl ?_
  refine r_lcmp h dX12_readLine_76 rx1 (rJc rfl) ?_
  refine r_if_ne (tgt := 84) h dX12_readLine_77 (by decide) (rI_ycmp _ _) (fun hc1 => ?_) (fun hc1 => ?_)
  · have hf := ite_f hc1 hf
    exact b_Mo_readLine_84 h hr hw ht x1 s0 rx1 hf
  · have hf := ite_nf hc1 hf
    refine r_aload_n h dX12_readLine_80 rfl 0 rfl ?_
    obtain ⟨r2, s2, hq2, hf⟩ := ob_some hf
    refine r_callV0 h [] dX12_readLine_81 (fun hs => m_Mo_readMatter hw ht hs hq2) ml_X12_313 cv_Mo_readMatter rfl (co := 12) rfl (by decide) ht rC_86 ⟨rfl, rfl⟩ ⟨Nat.le_of_ble_eq_true rfl, Nat.le_of_ble_eq_true rfl⟩ ⟨Nat.le_of_ble_eq_true rfl, Nat.le_of_ble_eq_true rfl⟩ (Nat.le_of_ble_eq_true rfl) rfl (fun hr2 hs2 => ?_)
    exact b_Mo_readLine_84 h hr hw ht x1 s2 rx1 hf
set_option maxRecDepth 20000 in
theorem b_Mo_readLine_60 {l : Launch} {D : va_G} {cs : Nat → ClassId} {aS aV : Nat} {A : Nat → Prop} {K : KT} {ad : Nat → Nat} {n : Nat} {nl : Nat → Nat → Bool} {out : Int × SS} (h : w_Cl l rm_Mo_readLine D cs aS aV A cX12_readLine 3 RX12 "readLine" K) (hr : w_Rt 0 cX12_readLine 0 0 (w_Po ad n nl out) K) (hw : w_WH n nl) (ht : 86 < n) (x1 : Int) (s0 : SS) (rx1 : rJ x1) (hf : j_Mo_readLine_60 x1 s0 = some out) : K ad n nl 0 0 60 [(0, .ref (ad 86)), (1, .long (vJ x1))] [] s0 := by
  unfold j_Mo_readLine_60 at hf
  refine r_rS h (fun hs0 => ?_)
  refine r_lload_n h dX12_readLine_60 rfl 1 rfl ?_
  refine r_ldc2 (x := 1936684396) h dX12_readLine_61 (gt_in7 130 rfl rfl) rfl ?_
  refine r_lcmp h dX12_readLine_64 rx1 (rJc rfl) ?_
  refine r_if_ne (tgt := 72) h dX12_readLine_65 (by decide) (rI_ycmp _ _) (fun hc1 => ?_) (fun hc1 => ?_)
  · have hf := ite_f hc1 hf
    exact b_Mo_readLine_72 h hr hw ht x1 s0 rx1 hf
  · have hf := ite_nf hc1 hf
    refine r_aload_n h dX12_readLine_68 rfl 0 rfl ?_
    obtain ⟨r2, s2, hq2, hf⟩ := ob_some hf
    refine r_callV0 h [] dX12_readLine_69 (fun hs => m_Mo_readSoul hw ht hs hq2) ml_X12_310 cv_Mo_readSoul rfl (co := 12) rfl (by decide) ht rC_86 ⟨rfl, rfl⟩ ⟨Nat.le_of_ble_eq_true rfl, Nat.le_of_ble_eq_true rfl⟩ ⟨Nat.le_of_ble_eq_true rfl, Nat.le_of_ble_eq_true rfl⟩ (Nat.le_of_ble_eq_true rfl) rfl (fun hr2 hs2 => ?_)
    exact b_Mo_readLine_72 h hr hw ht x1 s2 rx1 hf
set_option maxRecDepth 20000 in
theorem b_Mo_readLine_48 {l : Launch} {D : va_G} {cs : Nat → ClassId} {aS aV : Nat} {A : Nat → Prop} {K : KT} {ad : Nat → Nat} {n : Nat} {nl : Nat → Nat → Bool} {out : Int × SS} (h : w_Cl l rm_Mo_readLine D cs aS aV A cX12_readLine 3 RX12 "readLine" K) (hr : w_Rt 0 cX12_readLine 0 0 (w_Po ad n nl out) K) (hw : w_WH n nl) (ht : 86 < n) (x1 : Int) (s0 : SS) (rx1 : rJ x1) (hf : j_Mo_readLine_48 x1 s0 = some out) : K ad n nl 0 0 48 [(0, .ref (ad 86)), (1, .long (vJ x1))] [] s0 := by
  unfold j_Mo_readLine_48 at hf
  refine r_rS h (fun hs0 => ?_)
  refine r_lload_n h dX12_readLine_48 rfl 1 rfl ?_
  refine r_ldc2 (x := 7823737) h dX12_readLine_49 (gt_in7 127 rfl rfl) rfl ?_
  refine r_lcmp h dX12_readLine_52 rx1 (rJc rfl) ?_
  refine r_if_ne (tgt := 60) h dX12_readLine_53 (by decide) (rI_ycmp _ _) (fun hc1 => ?_) (fun hc1 => ?_)
  · have hf := ite_f hc1 hf
    exact b_Mo_readLine_60 h hr hw ht x1 s0 rx1 hf
  · have hf := ite_nf hc1 hf
    refine r_aload_n h dX12_readLine_56 rfl 0 rfl ?_
    obtain ⟨r2, s2, hq2, hf⟩ := ob_some hf
    refine r_callV0 h [] dX12_readLine_57 (fun hs => m_Mo_readWay hw ht hs hq2) ml_X12_307 cv_Mo_readWay rfl (co := 12) rfl (by decide) ht rC_86 ⟨rfl, rfl⟩ ⟨Nat.le_of_ble_eq_true rfl, Nat.le_of_ble_eq_true rfl⟩ ⟨Nat.le_of_ble_eq_true rfl, Nat.le_of_ble_eq_true rfl⟩ (Nat.le_of_ble_eq_true rfl) rfl (fun hr2 hs2 => ?_)
    exact b_Mo_readLine_60 h hr hw ht x1 s2 rx1 hf
set_option maxRecDepth 20000 in
theorem b_Mo_readLine_24 {l : Launch} {D : va_G} {cs : Nat → ClassId} {aS aV : Nat} {A : Nat → Prop} {K : KT} {ad : Nat → Nat} {n : Nat} {nl : Nat → Nat → Bool} {out : Int × SS} (h : w_Cl l rm_Mo_readLine D cs aS aV A cX12_readLine 3 RX12 "readLine" K) (hr : w_Rt 0 cX12_readLine 0 0 (w_Po ad n nl out) K) (hw : w_WH n nl) (ht : 86 < n) (x1 : Int) (s0 : SS) (rx1 : rJ x1) (hf : j_Mo_readLine_24 x1 s0 = some out) : K ad n nl 0 0 24 [(0, .ref (ad 86)), (1, .long (vJ x1))] [] s0 := by
  unfold j_Mo_readLine_24 at hf
  refine r_rS h (fun hs0 => ?_)
  refine r_aload_n h dX12_readLine_24 rfl 0 rfl ?_
  obtain ⟨r1, s1, hq1, hf⟩ := ob_some hf
  refine r_callV2 h [] dX12_readLine_25 (fun hs => m_Mo_isGood hw ht hs hq1) ml_X12_265 cv_Mo_isGood rfl (co := 12) rfl (by decide) ht rC_86 ⟨rfl, rfl⟩ ⟨Nat.le_of_ble_eq_true rfl, Nat.le_of_ble_eq_true rfl⟩ ⟨Nat.le_of_ble_eq_true rfl, Nat.le_of_ble_eq_true rfl⟩ (Nat.le_of_ble_eq_true rfl) rfl (fun hr1 hs1 => ?_)
  refine r_if_ne (tgt := 32) h dX12_readLine_28 (by decide) (rI_b hr1) (fun hc2 => ?_) (fun hc2 => ?_)
  · have hf := ite_f hc2 hf
    refine r_aload_n h dX12_readLine_32 rfl 0 rfl ?_
    obtain ⟨r3, s3, hq3, hf⟩ := ob_some hf
    refine r_callV0 h [] dX12_readLine_33 (fun hs => m_Mo_goOn hw ht hs hq3) ml_X12_269 cv_Mo_goOn rfl (co := 12) rfl (by decide) ht rC_86 ⟨rfl, rfl⟩ ⟨Nat.le_of_ble_eq_true rfl, Nat.le_of_ble_eq_true rfl⟩ ⟨Nat.le_of_ble_eq_true rfl, Nat.le_of_ble_eq_true rfl⟩ (Nat.le_of_ble_eq_true rfl) rfl (fun hr3 hs3 => ?_)
    refine r_lload_n h dX12_readLine_36 rfl 1 rfl ?_
    refine r_ldc2 (x := 482854658917) h dX12_readLine_37 (gt_in7 124 rfl rfl) rfl ?_
    refine r_lcmp h dX12_readLine_40 rx1 (rJc rfl) ?_
    refine r_if_ne (tgt := 48) h dX12_readLine_41 (by decide) (rI_ycmp _ _) (fun hc4 => ?_) (fun hc4 => ?_)
    · have hf := ite_f hc4 hf
      exact b_Mo_readLine_48 h hr hw ht x1 s3 rx1 hf
    · have hf := ite_nf hc4 hf
      refine r_aload_n h dX12_readLine_44 rfl 0 rfl ?_
      obtain ⟨r5, s5, hq5, hf⟩ := ob_some hf
      refine r_callV0 h [] dX12_readLine_45 (fun hs => m_Mo_readPlace hw ht hs hq5) ml_X12_304 cv_Mo_readPlace rfl (co := 12) rfl (by decide) ht rC_86 ⟨rfl, rfl⟩ ⟨Nat.le_of_ble_eq_true rfl, Nat.le_of_ble_eq_true rfl⟩ ⟨Nat.le_of_ble_eq_true rfl, Nat.le_of_ble_eq_true rfl⟩ (Nat.le_of_ble_eq_true rfl) rfl (fun hr5 hs5 => ?_)
      exact b_Mo_readLine_48 h hr hw ht x1 s5 rx1 hf
  · have hf := ite_nf hc2 hf
    exact r_ret0 (x := 0) hr dX12_readLine_31 hf
set_option maxRecDepth 20000 in
theorem b_Mo_readLine_20 {l : Launch} {D : va_G} {cs : Nat → ClassId} {aS aV : Nat} {A : Nat → Prop} {K : KT} {ad : Nat → Nat} {n : Nat} {nl : Nat → Nat → Bool} {out : Int × SS} (h : w_Cl l rm_Mo_readLine D cs aS aV A cX12_readLine 3 RX12 "readLine" K) (hr : w_Rt 0 cX12_readLine 0 0 (w_Po ad n nl out) K) (hw : w_WH n nl) (ht : 86 < n) (x1 : Int) (s0 : SS) (rx1 : rJ x1) (hf : j_Mo_readLine_20 x1 s0 = some out) : K ad n nl 0 0 20 [(0, .ref (ad 86)), (1, .long (vJ x1))] [] s0 := by
  unfold j_Mo_readLine_20 at hf
  refine r_rS h (fun hs0 => ?_)
  refine r_aload_n h dX12_readLine_20 rfl 0 rfl ?_
  obtain ⟨r1, s1, hq1, hf⟩ := ob_some hf
  refine r_callV0 h [] dX12_readLine_21 (fun hs => m_Mo_misplaced hw ht hs hq1) ml_X12_272 cv_Mo_misplaced rfl (co := 12) rfl (by decide) ht rC_86 ⟨rfl, rfl⟩ ⟨Nat.le_of_ble_eq_true rfl, Nat.le_of_ble_eq_true rfl⟩ ⟨Nat.le_of_ble_eq_true rfl, Nat.le_of_ble_eq_true rfl⟩ (Nat.le_of_ble_eq_true rfl) rfl (fun hr1 hs1 => ?_)
  exact b_Mo_readLine_24 h hr hw ht x1 s1 rx1 hf
set_option maxRecDepth 20000 in
theorem m_Mo_readLine {l : Launch} {D : va_G} {cs : Nat → ClassId} {aS aV : Nat} {A : Nat → Prop} {ad : Nat → Nat} {n : Nat} {nl : Nat → Nat → Bool} {out : Int × SS} (hw : w_WH n nl) (ht : 86 < n) {s0 : SS} (hs0 : rS s0) (hf : f_Mo_readLine s0 = some out) : w_MC l D cs aS aV A yX12_readLine cX12_readLine 3 0 rm_Mo_readLine ad n nl [.ref (ad 86)] s0 (w_Po ad n nl out) := by
  refine w_MC_of (by decide +kernel) (by decide) hs0 (Nat.le_of_ble_eq_true rfl) (fun K h hr => ?_)
  refine r_lv (lv' := [(0, .ref (ad 86))]) rfl ?_
  unfold f_Mo_readLine at hf
  refine r_rS h (fun hs0 => ?_)
  refine r_aload_n h dX12_readLine_0 rfl 0 rfl ?_
  refine g_X12_244 h dX12_readLine_1 ht rC_86 ?_
  refine r_olJ hf (hs0.2 _ _) (fun x1_ rx1_ hf => ?_)
  refine r_lstore_n h [(1, .long (vJ x1_)), (0, .ref (ad 86))] dX12_readLine_4 rfl (by decide) rfl ?_
  refine r_aload_n h dX12_readLine_5 rfl 1 rfl ?_
  refine g_X12_237 h dX12_readLine_6 ht rC_86 ?_
  refine r_iconst h dX12_readLine_9 ?_
  refine r_icmp_ne (tgt := 20) h dX12_readLine_10 (by decide) (hs0.1 _ _) (rIc rfl) (fun hc2 => ?_) (fun hc2 => ?_)
  · have hf := ite_f hc2 hf
    refine r_sub h [1, 0] rfl ?_
    exact b_Mo_readLine_20 h hr hw ht x1_ s0 rx1_ hf
  · have hf := ite_nf hc2 hf
    refine r_aload_n h dX12_readLine_13 rfl 1 rfl ?_
    obtain ⟨r3, s3, hq3, hf⟩ := ob_some hf
    refine r_callV2 h [] dX12_readLine_14 (fun hs => m_Mo_isFull hw ht hs hq3) ml_X12_301 cv_Mo_isFull rfl (co := 12) rfl (by decide) ht rC_86 ⟨rfl, rfl⟩ ⟨Nat.le_of_ble_eq_true rfl, Nat.le_of_ble_eq_true rfl⟩ ⟨Nat.le_of_ble_eq_true rfl, Nat.le_of_ble_eq_true rfl⟩ (Nat.le_of_ble_eq_true rfl) rfl (fun hr3 hs3 => ?_)
    refine r_if_eq (tgt := 24) h dX12_readLine_17 (by decide) (rI_b hr3) (fun hc4 => ?_) (fun hc4 => ?_)
    · have hf := ite_t hc4 hf
      refine r_sub h [1, 0] rfl ?_
      exact b_Mo_readLine_24 h hr hw ht x1_ s3 rx1_ hf
    · have hf := ite_f hc4 hf
      refine r_sub h [1, 0] rfl ?_
      exact b_Mo_readLine_20 h hr hw ht x1_ s3 rx1_ hf
set_option maxRecDepth 20000 in
theorem m_Mo_soulMany {l : Launch} {D : va_G} {cs : Nat → ClassId} {aS aV : Nat} {A : Nat → Prop} {ad : Nat → Nat} {n : Nat} {nl : Nat → Nat → Bool} {out : Int × SS} (hw : w_WH n nl) (ht : 86 < n) {s0 : SS} (hs0 : rS s0) (hf : f_Mo_soulMany s0 = some out) : w_MC l D cs aS aV A yX12_soulMany cX12_soulMany 1 1 rm_Mo_soulMany ad n nl [.ref (ad 86)] s0 (w_Po ad n nl out) := by
  refine w_MC_of (by decide +kernel) (by decide) hs0 (Nat.le_of_ble_eq_true rfl) (fun K h hr => ?_)
  refine r_lv (lv' := [(0, .ref (ad 86))]) rfl ?_
  unfold f_Mo_soulMany at hf
  refine r_rS h (fun hs0 => ?_)
  refine r_aload_n h dX12_soulMany_0 rfl 0 rfl ?_
  have hq1 := w_ref hw ht rC_86 (by decide) (k := 13) (by decide) rf_12_13
  refine g_X12_27 h dX12_soulMany_1 ht rC_86 hq1.1 ?_
  refine r_aload_n h dX12_soulMany_4 rfl 0 rfl ?_
  refine g_X12_295 h dX12_soulMany_5 ht rC_86 ?_
  obtain ⟨hi2, hf⟩ := oc_some hf
  refine r_iald h dX12_soulMany_8 hq1.2 rC_91 (hs0.1 _ _) (N := 2) (by rw [rN_91]; rfl) (j := (gi s0 86 40).toNat) rfl hi2 ?_
  exact r_ret1 hr dX12_soulMany_9 (hs0.1 _ _) hf
set_option maxRecDepth 20000 in
theorem b_Mo_startAnew_150 {l : Launch} {D : va_G} {cs : Nat → ClassId} {aS aV : Nat} {A : Nat → Prop} {K : KT} {ad : Nat → Nat} {n : Nat} {nl : Nat → Nat → Bool} {out : Int × SS} (h : w_Cl l rm_Mo_startAnew D cs aS aV A cX12_startAnew 2 RX12 "startAnew" K) (hr : w_Rt 0 cX12_startAnew 0 0 (w_Po ad n nl out) K) (hw : w_WH n nl) (ht : 86 < n) : ∀ (fu : Nat) (x1 : Int) (s0 : SS), rI x1 → l_Mo_startAnew_150 fu x1 s0 = some out → K ad n nl 0 0 150 [(0, .ref (ad 86)), (1, .int (vI x1))] [] s0 := by
  intro fu
  induction fu with
  | zero =>
    intro x1 s0 rx1 hf
    rw [l_Mo_startAnew_150] at hf
    cases hf
  | succ fu ih =>
    intro x1 s0 rx1 hf
    rw [l_Mo_startAnew_150] at hf
    refine r_rS h (fun hs0 => ?_)
    refine r_iload_n h dX12_startAnew_150 rfl 1 rfl ?_
    refine r_iconst h dX12_startAnew_151 ?_
    refine r_icmp_ge (tgt := 168) h dX12_startAnew_152 (by decide) rx1 (rIc rfl) (fun hc1 => ?_) (fun hc1 => ?_)
    · have hf := ite_t hc1 hf
      exact r_ret0 (x := 0) hr dX12_startAnew_168 hf
    · have hf := ite_f hc1 hf
      refine r_aload_n h dX12_startAnew_155 rfl 0 rfl ?_
      have hq2 := w_ref hw ht rC_86 (by decide) (k := 83) (by decide) rf_12_83
      refine g_X12_170 h dX12_startAnew_156 ht rC_86 hq2.1 ?_
      refine r_iload_n h dX12_startAnew_159 rfl 1 rfl ?_
      refine r_iconst h dX12_startAnew_160 ?_
      obtain ⟨hi3, hf⟩ := oc_some hf
      refine r_zast h dX12_startAnew_161 hq2.2 rC_137 rx1 (N := 3) (by rw [rN_137]; rfl) (j := (x1).toNat) rfl hi3 (Or.inl rfl) ?_
      refine r_os hf (fun s4 hf => ?_)
      refine r_rS h (fun hs4 => ?_)
      refine r_iinc h [(1, .int (vI (iw (x1 + 1)))), (0, .ref (ad 86))] dX12_startAnew_162 1 rfl (by decide) rfl ?_
      refine r_goto (tgt := 150) h dX12_startAnew_165 (by decide) ?_
      refine r_sub h [1, 0] rfl ?_
      exact ih (iw (x1 + 1)) s4 (rI_iw _) hf
set_option maxRecDepth 20000 in
theorem b_Mo_startAnew_38 {l : Launch} {D : va_G} {cs : Nat → ClassId} {aS aV : Nat} {A : Nat → Prop} {K : KT} {ad : Nat → Nat} {n : Nat} {nl : Nat → Nat → Bool} {out : Int × SS} (h : w_Cl l rm_Mo_startAnew D cs aS aV A cX12_startAnew 2 RX12 "startAnew" K) (hr : w_Rt 0 cX12_startAnew 0 0 (w_Po ad n nl out) K) (hw : w_WH n nl) (ht : 86 < n) : ∀ (fu : Nat) (x1 : Int) (s0 : SS), rI x1 → l_Mo_startAnew_38 fu x1 s0 = some out → K ad n nl 0 0 38 [(0, .ref (ad 86)), (1, .int (vI x1))] [] s0 := by
  intro fu
  induction fu with
  | zero =>
    intro x1 s0 rx1 hf
    rw [l_Mo_startAnew_38] at hf
    cases hf
  | succ fu ih =>
    intro x1 s0 rx1 hf
    rw [l_Mo_startAnew_38] at hf
    refine r_rS h (fun hs0 => ?_)
    refine r_iload_n h dX12_startAnew_38 rfl 1 rfl ?_
    refine r_aload_n h dX12_startAnew_39 rfl 0 rfl ?_
    obtain ⟨r1, s1, hq1, hf⟩ := ob_some hf
    refine r_callV1 h [] dX12_startAnew_40 (fun hs => m_Mo_soulMany hw ht hs hq1) ml_X12_404 cv_Mo_soulMany rfl (co := 12) rfl (by decide) ht rC_86 ⟨rfl, rfl⟩ ⟨Nat.le_of_ble_eq_true rfl, Nat.le_of_ble_eq_true rfl⟩ ⟨Nat.le_of_ble_eq_true rfl, Nat.le_of_ble_eq_true rfl⟩ (Nat.le_of_ble_eq_true rfl) rfl (fun hr1 hs1 => ?_)
    refine r_icmp_ge (tgt := 102) h dX12_startAnew_43 (by decide) rx1 hr1 (fun hc2 => ?_) (fun hc2 => ?_)
    · have hf := ite_t hc2 hf
      refine r_aload_n h dX12_startAnew_102 rfl 0 rfl ?_
      have hq3 := w_ref hw ht rC_86 (by decide) (k := 52) (by decide) rf_12_52
      refine g_X12_110 h dX12_startAnew_103 ht rC_86 hq3.1 ?_
      refine r_bipush h dX12_startAnew_106 (by decide) ?_
      refine r_iconst h dX12_startAnew_108 ?_
      refine r_iast h dX12_startAnew_109 hq3.2 rC_118 (rIc rfl) (N := 44) (by rw [rN_118]; rfl) (j := 13) rfl (by decide) (rIc rfl) ?_
      refine r_os hf (fun s4 hf => ?_)
      refine r_rS h (fun hs4 => ?_)
      refine r_aload_n h dX12_startAnew_110 rfl 0 rfl ?_
      have hq5 := w_ref hw ht rC_86 (by decide) (k := 52) (by decide) rf_12_52
      refine g_X12_110 h dX12_startAnew_111 ht rC_86 hq5.1 ?_
      refine r_bipush h dX12_startAnew_114 (by decide) ?_
      refine r_iconst h dX12_startAnew_116 ?_
      refine r_iast h dX12_startAnew_117 hq5.2 rC_118 (rIc rfl) (N := 44) (by rw [rN_118]; rfl) (j := 17) rfl (by decide) (rIc rfl) ?_
      refine r_os hf (fun s6 hf => ?_)
      refine r_rS h (fun hs6 => ?_)
      refine r_aload_n h dX12_startAnew_118 rfl 0 rfl ?_
      refine r_iconst h dX12_startAnew_119 ?_
      refine p_X12_454 h dX12_startAnew_120 ht rC_86 (rIc rfl) ?_
      refine r_os hf (fun s7 hf => ?_)
      refine r_rS h (fun hs7 => ?_)
      refine r_aload_n h dX12_startAnew_123 rfl 0 rfl ?_
      refine r_iconst h dX12_startAnew_124 ?_
      refine p_X12_457 h dX12_startAnew_125 ht rC_86 (rIc rfl) ?_
      refine r_os hf (fun s8 hf => ?_)
      refine r_rS h (fun hs8 => ?_)
      refine r_aload_n h dX12_startAnew_128 rfl 0 rfl ?_
      refine r_iconst h dX12_startAnew_129 ?_
      refine p_X12_125 h dX12_startAnew_130 ht rC_86 (rIc rfl) ?_
      refine r_os hf (fun s9 hf => ?_)
      refine r_rS h (fun hs9 => ?_)
      refine r_aload_n h dX12_startAnew_133 rfl 0 rfl ?_
      refine r_iconst h dX12_startAnew_134 ?_
      refine p_X12_460 h dX12_startAnew_135 ht rC_86 (rIc rfl) ?_
      refine r_os hf (fun s10 hf => ?_)
      refine r_rS h (fun hs10 => ?_)
      refine r_aload_n h dX12_startAnew_138 rfl 0 rfl ?_
      refine r_iconst h dX12_startAnew_139 ?_
      refine p_X12_463 h dX12_startAnew_140 ht rC_86 (rIc rfl) ?_
      refine r_os hf (fun s11 hf => ?_)
      refine r_rS h (fun hs11 => ?_)
      refine r_aload_n h dX12_startAnew_143 rfl 0 rfl ?_
      refine r_iconst h dX12_startAnew_144 ?_
      refine p_X12_466 h dX12_startAnew_145 ht rC_86 (rIc rfl) ?_
      refine r_os hf (fun s12 hf => ?_)
      refine r_rS h (fun hs12 => ?_)
      refine r_iconst h dX12_startAnew_148 ?_
      refine r_istore_n h [(1, .int (vI 0)), (0, .ref (ad 86))] dX12_startAnew_149 rfl (by decide) rfl ?_
      refine r_sub h [1, 0] rfl ?_
      exact b_Mo_startAnew_150 h hr hw ht FU 0 s12 (rIc rfl) hf
    · have hf := ite_f hc2 hf
      refine r_aload_n h dX12_startAnew_46 rfl 0 rfl ?_
      have hq13 := w_ref hw ht rC_86 (by decide) (k := 52) (by decide) rf_12_52
      refine g_X12_110 h dX12_startAnew_47 ht rC_86 hq13.1 ?_
      refine r_iconst h dX12_startAnew_50 ?_
      refine r_iconst h dX12_startAnew_51 ?_
      refine r_iload_n h dX12_startAnew_52 rfl 1 rfl ?_
      refine r_imul h dX12_startAnew_53 ?_
      refine r_iadd h dX12_startAnew_54 ?_
      refine r_aload_n h dX12_startAnew_55 rfl 0 rfl ?_
      have hq14 := w_ref hw ht rC_86 (by decide) (k := 23) (by decide) rf_12_23
      refine g_X12_57 h dX12_startAnew_56 ht rC_86 hq14.1 ?_
      refine r_bipush h dX12_startAnew_59 (by decide) ?_
      refine r_aload_n h dX12_startAnew_61 rfl 0 rfl ?_
      refine g_X12_295 h dX12_startAnew_62 ht rC_86 ?_
      refine r_imul h dX12_startAnew_65 ?_
      refine r_iload_n h dX12_startAnew_66 rfl 1 rfl ?_
      refine r_iadd h dX12_startAnew_67 ?_
      obtain ⟨hi15, hf⟩ := oc_some hf
      refine r_iald h dX12_startAnew_68 hq14.2 rC_101 (rI_iw _) (N := 12) (by rw [rN_101]; rfl) (j := (iw ((iw (6 * (gi s1 86 40))) + x1)).toNat) rfl hi15 ?_
      obtain ⟨hi16, hf⟩ := oc_some hf
      refine r_iast h dX12_startAnew_69 hq13.2 rC_118 (rI_iw _) (N := 44) (by rw [rN_118]; rfl) (j := (iw (1 + (iw (2 * x1)))).toNat) rfl hi16 (hs1.1 _ _) ?_
      refine r_os hf (fun s17 hf => ?_)
      refine r_rS h (fun hs17 => ?_)
      refine r_aload_n h dX12_startAnew_70 rfl 0 rfl ?_
      have hq18 := w_ref hw ht rC_86 (by decide) (k := 52) (by decide) rf_12_52
      refine g_X12_110 h dX12_startAnew_71 ht rC_86 hq18.1 ?_
      refine r_iconst h dX12_startAnew_74 ?_
      refine r_iconst h dX12_startAnew_75 ?_
      refine r_iload_n h dX12_startAnew_76 rfl 1 rfl ?_
      refine r_imul h dX12_startAnew_77 ?_
      refine r_iadd h dX12_startAnew_78 ?_
      refine r_iconst h dX12_startAnew_79 ?_
      refine r_iadd h dX12_startAnew_80 ?_
      refine r_aload_n h dX12_startAnew_81 rfl 0 rfl ?_
      have hq19 := w_ref hw ht rC_86 (by decide) (k := 24) (by decide) rf_12_24
      refine g_X12_60 h dX12_startAnew_82 ht rC_86 hq19.1 ?_
      refine r_bipush h dX12_startAnew_85 (by decide) ?_
      refine r_aload_n h dX12_startAnew_87 rfl 0 rfl ?_
      refine g_X12_295 h dX12_startAnew_88 ht rC_86 ?_
      refine r_imul h dX12_startAnew_91 ?_
      refine r_iload_n h dX12_startAnew_92 rfl 1 rfl ?_
      refine r_iadd h dX12_startAnew_93 ?_
      obtain ⟨hi20, hf⟩ := oc_some hf
      refine r_iald h dX12_startAnew_94 hq19.2 rC_102 (rI_iw _) (N := 12) (by rw [rN_102]; rfl) (j := (iw ((iw (6 * (gi s17 86 40))) + x1)).toNat) rfl hi20 ?_
      obtain ⟨hi21, hf⟩ := oc_some hf
      refine r_iast h dX12_startAnew_95 hq18.2 rC_118 (rI_iw _) (N := 44) (by rw [rN_118]; rfl) (j := (iw ((iw (1 + (iw (2 * x1)))) + 1)).toNat) rfl hi21 (hs17.1 _ _) ?_
      refine r_os hf (fun s22 hf => ?_)
      refine r_rS h (fun hs22 => ?_)
      refine r_iinc h [(1, .int (vI (iw (x1 + 1)))), (0, .ref (ad 86))] dX12_startAnew_96 1 rfl (by decide) rfl ?_
      refine r_goto (tgt := 38) h dX12_startAnew_99 (by decide) ?_
      refine r_sub h [1, 0] rfl ?_
      exact ih (iw (x1 + 1)) s22 (rI_iw _) hf
set_option maxRecDepth 20000 in
theorem b_Mo_startAnew_2 {l : Launch} {D : va_G} {cs : Nat → ClassId} {aS aV : Nat} {A : Nat → Prop} {K : KT} {ad : Nat → Nat} {n : Nat} {nl : Nat → Nat → Bool} {out : Int × SS} (h : w_Cl l rm_Mo_startAnew D cs aS aV A cX12_startAnew 2 RX12 "startAnew" K) (hr : w_Rt 0 cX12_startAnew 0 0 (w_Po ad n nl out) K) (hw : w_WH n nl) (ht : 86 < n) : ∀ (fu : Nat) (x1 : Int) (s0 : SS), rI x1 → l_Mo_startAnew_2 fu x1 s0 = some out → K ad n nl 0 0 2 [(0, .ref (ad 86)), (1, .int (vI x1))] [] s0 := by
  intro fu
  induction fu with
  | zero =>
    intro x1 s0 rx1 hf
    rw [l_Mo_startAnew_2] at hf
    cases hf
  | succ fu ih =>
    intro x1 s0 rx1 hf
    rw [l_Mo_startAnew_2] at hf
    refine r_rS h (fun hs0 => ?_)
    refine r_iload_n h dX12_startAnew_2 rfl 1 rfl ?_
    refine r_bipush h dX12_startAnew_3 (by decide) ?_
    refine r_icmp_ge (tgt := 21) h dX12_startAnew_5 (by decide) rx1 (rIc rfl) (fun hc1 => ?_) (fun hc1 => ?_)
    · have hf := ite_t hc1 hf
      refine r_aload_n h dX12_startAnew_21 rfl 0 rfl ?_
      have hq2 := w_ref hw ht rC_86 (by decide) (k := 52) (by decide) rf_12_52
      refine g_X12_110 h dX12_startAnew_22 ht rC_86 hq2.1 ?_
      refine r_iconst h dX12_startAnew_25 ?_
      refine r_aload_n h dX12_startAnew_26 rfl 0 rfl ?_
      have hq3 := w_ref hw ht rC_86 (by decide) (k := 16) (by decide) rf_12_16
      refine g_X12_36 h dX12_startAnew_27 ht rC_86 hq3.1 ?_
      refine r_aload_n h dX12_startAnew_30 rfl 0 rfl ?_
      refine g_X12_295 h dX12_startAnew_31 ht rC_86 ?_
      obtain ⟨hi4, hf⟩ := oc_some hf
      refine r_iald h dX12_startAnew_34 hq3.2 rC_94 (hs0.1 _ _) (N := 2) (by rw [rN_94]; rfl) (j := (gi s0 86 40).toNat) rfl hi4 ?_
      refine r_iast h dX12_startAnew_35 hq2.2 rC_118 (rIc rfl) (N := 44) (by rw [rN_118]; rfl) (j := 0) rfl (by decide) (hs0.1 _ _) ?_
      refine r_os hf (fun s5 hf => ?_)
      refine r_rS h (fun hs5 => ?_)
      refine r_iconst h dX12_startAnew_36 ?_
      refine r_istore_n h [(1, .int (vI 0)), (0, .ref (ad 86))] dX12_startAnew_37 rfl (by decide) rfl ?_
      refine r_sub h [1, 0] rfl ?_
      exact b_Mo_startAnew_38 h hr hw ht FU 0 s5 (rIc rfl) hf
    · have hf := ite_f hc1 hf
      refine r_aload_n h dX12_startAnew_8 rfl 0 rfl ?_
      have hq6 := w_ref hw ht rC_86 (by decide) (k := 52) (by decide) rf_12_52
      refine g_X12_110 h dX12_startAnew_9 ht rC_86 hq6.1 ?_
      refine r_iload_n h dX12_startAnew_12 rfl 1 rfl ?_
      refine r_iconst h dX12_startAnew_13 ?_
      obtain ⟨hi7, hf⟩ := oc_some hf
      refine r_iast h dX12_startAnew_14 hq6.2 rC_118 rx1 (N := 44) (by rw [rN_118]; rfl) (j := (x1).toNat) rfl hi7 (rIc rfl) ?_
      refine r_os hf (fun s8 hf => ?_)
      refine r_rS h (fun hs8 => ?_)
      refine r_iinc h [(1, .int (vI (iw (x1 + 1)))), (0, .ref (ad 86))] dX12_startAnew_15 1 rfl (by decide) rfl ?_
      refine r_goto (tgt := 2) h dX12_startAnew_18 (by decide) ?_
      refine r_sub h [1, 0] rfl ?_
      exact ih (iw (x1 + 1)) s8 (rI_iw _) hf
set_option maxRecDepth 20000 in
theorem m_Mo_startAnew {l : Launch} {D : va_G} {cs : Nat → ClassId} {aS aV : Nat} {A : Nat → Prop} {ad : Nat → Nat} {n : Nat} {nl : Nat → Nat → Bool} {out : Int × SS} (hw : w_WH n nl) (ht : 86 < n) {s0 : SS} (hs0 : rS s0) (hf : f_Mo_startAnew s0 = some out) : w_MC l D cs aS aV A yX12_startAnew cX12_startAnew 2 0 rm_Mo_startAnew ad n nl [.ref (ad 86)] s0 (w_Po ad n nl out) := by
  refine w_MC_of (by decide +kernel) (by decide) hs0 (Nat.le_of_ble_eq_true rfl) (fun K h hr => ?_)
  refine r_lv (lv' := [(0, .ref (ad 86))]) rfl ?_
  unfold f_Mo_startAnew at hf
  refine r_rS h (fun hs0 => ?_)
  refine r_iconst h dX12_startAnew_0 ?_
  refine r_istore_n h [(1, .int (vI 0)), (0, .ref (ad 86))] dX12_startAnew_1 rfl (by decide) rfl ?_
  refine r_sub h [1, 0] rfl ?_
  exact b_Mo_startAnew_2 h hr hw ht FU 0 s0 (rIc rfl) hf
set_option maxRecDepth 20000 in
theorem b_Mo_land_95 {l : Launch} {D : va_G} {cs : Nat → ClassId} {aS aV : Nat} {A : Nat → Prop} {K : KT} {ad : Nat → Nat} {n : Nat} {nl : Nat → Nat → Bool} {out : Int × SS} (h : w_Cl l rm_Mo_land D cs aS aV A cX12_land 2 RX12 "land" K) (hr : w_Rt 1 cX12_land 0 0 (w_Po ad n nl out) K) (hw : w_WH n nl) (ht : 86 < n) (s0 : SS) (hf : j_Mo_land_95 s0 = some out) : K ad n nl 0 0 95 [(0, .ref (ad 86))] [] s0 := by
  unfold j_Mo_land_95 at hf
  refine r_rS h (fun hs0 => ?_)
  refine r_aload_n h dX12_land_95 rfl 0 rfl ?_
  obtain ⟨r1, s1, hq1, hf⟩ := ob_some hf
  refine r_callV2 h [] dX12_land_96 (fun hs => m_Mo_isGood hw ht hs hq1) ml_X12_265 cv_Mo_isGood rfl (co := 12) rfl (by decide) ht rC_86 ⟨rfl, rfl⟩ ⟨Nat.le_of_ble_eq_true rfl, Nat.le_of_ble_eq_true rfl⟩ ⟨Nat.le_of_ble_eq_true rfl, Nat.le_of_ble_eq_true rfl⟩ (Nat.le_of_ble_eq_true rfl) rfl (fun hr1 hs1 => ?_)
  refine r_if_ne (tgt := 104) h dX12_land_99 (by decide) (rI_b hr1) (fun hc2 => ?_) (fun hc2 => ?_)
  · have hf := ite_f hc2 hf
    refine r_aload_n h dX12_land_104 rfl 0 rfl ?_
    refine r_aload_n h dX12_land_105 rfl 0 rfl ?_
    refine g_X12_286 h dX12_land_106 ht rC_86 ?_
    refine p_X12_295 h dX12_land_109 ht rC_86 (hs1.1 _ _) ?_
    refine r_os hf (fun s3 hf => ?_)
    refine r_rS h (fun hs3 => ?_)
    refine r_aload_n h dX12_land_112 rfl 0 rfl ?_
    obtain ⟨r4, s4, hq4, hf⟩ := ob_some hf
    refine r_callV0 h [] dX12_land_113 (fun hs => m_Mo_startAnew hw ht hs hq4) ml_X12_176 cv_Mo_startAnew rfl (co := 12) rfl (by decide) ht rC_86 ⟨rfl, rfl⟩ ⟨Nat.le_of_ble_eq_true rfl, Nat.le_of_ble_eq_true rfl⟩ ⟨Nat.le_of_ble_eq_true rfl, Nat.le_of_ble_eq_true rfl⟩ (Nat.le_of_ble_eq_true rfl) rfl (fun hr4 hs4 => ?_)
    refine r_aload_n h dX12_land_116 rfl 0 rfl ?_
    have hq5 := w_ref hw ht rC_86 (by decide) (k := 11) (by decide) rf_12_11
    refine g_X12_20 h dX12_land_117 ht rC_86 hq5.1 ?_
    refine r_aload_n h dX12_land_120 rfl 0 rfl ?_
    refine g_X12_295 h dX12_land_121 ht rC_86 ?_
    obtain ⟨hi6, hf⟩ := oc_some hf
    refine r_iald h dX12_land_124 hq5.2 rC_89 (hs4.1 _ _) (N := 2) (by rw [rN_89]; rfl) (j := (gi s4 86 40).toNat) rfl hi6 ?_
    exact r_ret1 hr dX12_land_125 (hs4.1 _ _) hf
  · have hf := ite_nf hc2 hf
    refine r_iconst h dX12_land_102 ?_
    exact r_ret1 hr dX12_land_103 (rIc rfl) hf
set_option maxRecDepth 20000 in
theorem b_Mo_land_74 {l : Launch} {D : va_G} {cs : Nat → ClassId} {aS aV : Nat} {A : Nat → Prop} {K : KT} {ad : Nat → Nat} {n : Nat} {nl : Nat → Nat → Bool} {out : Int × SS} (h : w_Cl l rm_Mo_land D cs aS aV A cX12_land 2 RX12 "land" K) (hr : w_Rt 1 cX12_land 0 0 (w_Po ad n nl out) K) (hw : w_WH n nl) (ht : 86 < n) : ∀ (fu : Nat) (s0 : SS), l_Mo_land_74 fu s0 = some out → K ad n nl 0 0 74 [(0, .ref (ad 86))] [] s0 := by
  intro fu
  induction fu with
  | zero =>
    intro s0 hf
    rw [l_Mo_land_74] at hf
    cases hf
  | succ fu ih =>
    intro s0 hf
    rw [l_Mo_land_74] at hf
    refine r_rS h (fun hs0 => ?_)
    refine r_aload_n h dX12_land_74 rfl 0 rfl ?_
    obtain ⟨r1, s1, hq1, hf⟩ := ob_some hf
    refine r_callV2 h [] dX12_land_75 (fun hs => m_Mo_isGood hw ht hs hq1) ml_X12_265 cv_Mo_isGood rfl (co := 12) rfl (by decide) ht rC_86 ⟨rfl, rfl⟩ ⟨Nat.le_of_ble_eq_true rfl, Nat.le_of_ble_eq_true rfl⟩ ⟨Nat.le_of_ble_eq_true rfl, Nat.le_of_ble_eq_true rfl⟩ (Nat.le_of_ble_eq_true rfl) rfl (fun hr1 hs1 => ?_)
    refine r_if_eq (tgt := 95) h dX12_land_78 (by decide) (rI_b hr1) (fun hc2 => ?_) (fun hc2 => ?_)
    · have hf := ite_t hc2 hf
      exact b_Mo_land_95 h hr hw ht s1 hf
    · have hf := ite_f hc2 hf
      refine r_aload_n h dX12_land_81 rfl 0 rfl ?_
      refine g_X12_237 h dX12_land_82 ht rC_86 ?_
      refine r_if_eq (tgt := 95) h dX12_land_85 (by decide) (hs1.1 _ _) (fun hc3 => ?_) (fun hc3 => ?_)
      · have hf := ite_t hc3 hf
        exact b_Mo_land_95 h hr hw ht s1 hf
      · have hf := ite_f hc3 hf
        refine r_aload_n h dX12_land_88 rfl 0 rfl ?_
        obtain ⟨r4, s4, hq4, hf⟩ := ob_some hf
        refine r_callV0 h [] dX12_land_89 (fun hs => m_Mo_readLine hw ht hs hq4) ml_X12_298 cv_Mo_readLine rfl (co := 12) rfl (by decide) ht rC_86 ⟨rfl, rfl⟩ ⟨Nat.le_of_ble_eq_true rfl, Nat.le_of_ble_eq_true rfl⟩ ⟨Nat.le_of_ble_eq_true rfl, Nat.le_of_ble_eq_true rfl⟩ (Nat.le_of_ble_eq_true rfl) rfl (fun hr4 hs4 => ?_)
        refine r_goto (tgt := 74) h dX12_land_92 (by decide) ?_
        exact ih s4 hf
set_option maxRecDepth 20000 in
theorem b_Mo_land_20 {l : Launch} {D : va_G} {cs : Nat → ClassId} {aS aV : Nat} {A : Nat → Prop} {K : KT} {ad : Nat → Nat} {n : Nat} {nl : Nat → Nat → Bool} {out : Int × SS} (h : w_Cl l rm_Mo_land D cs aS aV A cX12_land 2 RX12 "land" K) (hr : w_Rt 1 cX12_land 0 0 (w_Po ad n nl out) K) (hw : w_WH n nl) (ht : 86 < n) : ∀ (fu : Nat) (x1 : Int) (s0 : SS), rI x1 → l_Mo_land_20 fu x1 s0 = some out → K ad n nl 0 0 20 [(0, .ref (ad 86)), (1, .int (vI x1))] [] s0 := by
  intro fu
  induction fu with
  | zero =>
    intro x1 s0 rx1 hf
    rw [l_Mo_land_20] at hf
    cases hf
  | succ fu ih =>
    intro x1 s0 rx1 hf
    rw [l_Mo_land_20] at hf
    refine r_rS h (fun hs0 => ?_)
    refine r_iload_n h dX12_land_20 rfl 1 rfl ?_
    refine r_aload_n h dX12_land_21 rfl 0 rfl ?_
    refine g_X12_179 h dX12_land_22 ht rC_86 ?_
    refine r_icmp_ge (tgt := 46) h dX12_land_25 (by decide) rx1 (hs0.1 _ _) (fun hc1 => ?_) (fun hc1 => ?_)
    · have hf := ite_t hc1 hf
      refine r_aload_n h dX12_land_46 rfl 0 rfl ?_
      refine r_iconst h dX12_land_47 ?_
      refine p_X12_292 h dX12_land_48 ht rC_86 (rIc rfl) ?_
      refine r_os hf (fun s2 hf => ?_)
      refine r_rS h (fun hs2 => ?_)
      refine r_aload_n h dX12_land_51 rfl 0 rfl ?_
      refine r_iconst h dX12_land_52 ?_
      refine p_X12_227 h dX12_land_53 ht rC_86 (rIc rfl) ?_
      refine r_os hf (fun s3 hf => ?_)
      refine r_rS h (fun hs3 => ?_)
      refine r_aload_n h dX12_land_56 rfl 0 rfl ?_
      refine r_iconst h dX12_land_57 ?_
      refine r_aload_n h dX12_land_58 rfl 0 rfl ?_
      refine g_X12_295 h dX12_land_59 ht rC_86 ?_
      refine r_isub h dX12_land_62 ?_
      refine p_X12_286 h dX12_land_63 ht rC_86 (rI_iw _) ?_
      refine r_os hf (fun s4 hf => ?_)
      refine r_rS h (fun hs4 => ?_)
      refine r_aload_n h dX12_land_66 rfl 0 rfl ?_
      obtain ⟨r5, s5, hq5, hf⟩ := ob_some hf
      refine r_callV0 h [] dX12_land_67 (fun hs => m_Mo_clearBank hw ht hs hq5) ml_X12_173 cv_Mo_clearBank rfl (co := 12) rfl (by decide) ht rC_86 ⟨rfl, rfl⟩ ⟨Nat.le_of_ble_eq_true rfl, Nat.le_of_ble_eq_true rfl⟩ ⟨Nat.le_of_ble_eq_true rfl, Nat.le_of_ble_eq_true rfl⟩ (Nat.le_of_ble_eq_true rfl) rfl (fun hr5 hs5 => ?_)
      refine r_aload_n h dX12_land_70 rfl 0 rfl ?_
      obtain ⟨r6, s6, hq6, hf⟩ := ob_some hf
      refine r_callV0 h [] dX12_land_71 (fun hs => m_Mo_goOn hw ht hs hq6) ml_X12_269 cv_Mo_goOn rfl (co := 12) rfl (by decide) ht rC_86 ⟨rfl, rfl⟩ ⟨Nat.le_of_ble_eq_true rfl, Nat.le_of_ble_eq_true rfl⟩ ⟨Nat.le_of_ble_eq_true rfl, Nat.le_of_ble_eq_true rfl⟩ (Nat.le_of_ble_eq_true rfl) rfl (fun hr6 hs6 => ?_)
      refine r_sub h [0] rfl ?_
      exact b_Mo_land_74 h hr hw ht FU s6 hf
    · have hf := ite_f hc1 hf
      refine r_aload_n h dX12_land_28 rfl 0 rfl ?_
      have hq7 := w_ref hw ht rC_86 (by decide) (k := 1) (by decide) rf_12_1
      refine g_X12_13 h dX12_land_29 ht rC_86 hq7.1 ?_
      refine r_iload_n h dX12_land_32 rfl 1 rfl ?_
      refine r_aload_n h dX12_land_33 rfl 0 rfl ?_
      have hq8 := w_ref hw ht rC_86 (by decide) (k := 0) (by decide) rf_12_0
      refine g_X12_7 h dX12_land_34 ht rC_86 hq8.1 ?_
      refine r_iload_n h dX12_land_37 rfl 1 rfl ?_
      obtain ⟨hi9, hf⟩ := oc_some hf
      refine r_bald h dX12_land_38 hq8.2 rC_87 rx1 (N := 1620) (by rw [rN_87]; rfl) (j := (x1).toNat) rfl hi9 ?_
      obtain ⟨hi10, hf⟩ := oc_some hf
      refine r_bast h dX12_land_39 hq7.2 rC_88 rx1 (N := 1600) (by rw [rN_88]; rfl) (j := (x1).toNat) rfl hi10  ?_
      refine r_os hf (fun s11 hf => ?_)
      refine r_rS h (fun hs11 => ?_)
      refine r_iinc h [(1, .int (vI (iw (x1 + 1)))), (0, .ref (ad 86))] dX12_land_40 1 rfl (by decide) rfl ?_
      refine r_goto (tgt := 20) h dX12_land_43 (by decide) ?_
      refine r_sub h [1, 0] rfl ?_
      exact ih (iw (x1 + 1)) s11 (rI_iw _) hf
set_option maxRecDepth 20000 in
theorem m_Mo_land {l : Launch} {D : va_G} {cs : Nat → ClassId} {aS aV : Nat} {A : Nat → Prop} {ad : Nat → Nat} {n : Nat} {nl : Nat → Nat → Bool} {out : Int × SS} (hw : w_WH n nl) (ht : 86 < n) {s0 : SS} (hs0 : rS s0) (hf : f_Mo_land s0 = some out) : w_MC l D cs aS aV A yX12_land cX12_land 2 1 rm_Mo_land ad n nl [.ref (ad 86)] s0 (w_Po ad n nl out) := by
  refine w_MC_of (by decide +kernel) (by decide) hs0 (Nat.le_of_ble_eq_true rfl) (fun K h hr => ?_)
  refine r_lv (lv' := [(0, .ref (ad 86))]) rfl ?_
  unfold f_Mo_land at hf
  refine r_rS h (fun hs0 => ?_)
  refine r_aload_n h dX12_land_0 rfl 0 rfl ?_
  refine r_iconst h dX12_land_1 ?_
  refine p_X12_182 h dX12_land_2 ht rC_86 (rIc rfl) ?_
  refine r_os hf (fun s1 hf => ?_)
  refine r_rS h (fun hs1 => ?_)
  refine r_aload_n h dX12_land_5 rfl 0 rfl ?_
  refine r_iconst h dX12_land_6 ?_
  refine p_X12_16 h dX12_land_7 ht rC_86 (rIc rfl) ?_
  refine r_os hf (fun s2 hf => ?_)
  refine r_rS h (fun hs2 => ?_)
  refine r_aload_n h dX12_land_10 rfl 0 rfl ?_
  refine r_aload_n h dX12_land_11 rfl 0 rfl ?_
  refine g_X12_292 h dX12_land_12 ht rC_86 ?_
  refine p_X12_179 h dX12_land_15 ht rC_86 (hs2.1 _ _) ?_
  refine r_os hf (fun s3 hf => ?_)
  refine r_rS h (fun hs3 => ?_)
  refine r_iconst h dX12_land_18 ?_
  refine r_istore_n h [(1, .int (vI 0)), (0, .ref (ad 86))] dX12_land_19 rfl (by decide) rfl ?_
  refine r_sub h [1, 0] rfl ?_
  exact b_Mo_land_20 h hr hw ht FU 0 s3 (rIc rfl) hf
set_option maxRecDepth 20000 in
theorem m_Mo_two {l : Launch} {D : va_G} {cs : Nat → ClassId} {aS aV : Nat} {A : Nat → Prop} {ad : Nat → Nat} {n : Nat} {nl : Nat → Nat → Bool} {out : Int × SS} (hw : w_WH n nl) {a1 : Int} (ra1 : rI a1) {a2 : Int} (ra2 : rI a2) {a3 : Int} (ra3 : rI a3) {s0 : SS} (hs0 : rS s0) (hf : f_Mo_two a1 a2 a3 s0 = some out) : w_MC l D cs aS aV A yX12_two cX12_two 3 1 rm_Mo_two ad n nl [.int (vI a1), .int (vI a2), .int (vI a3)] s0 (w_Po ad n nl out) := by
  refine w_MC_of (by decide +kernel) (by decide) hs0 (Nat.le_of_ble_eq_true rfl) (fun K h hr => ?_)
  refine r_lv (lv' := [(0, .int (vI a1)), (1, .int (vI a2)), (2, .int (vI a3))]) rfl ?_
  unfold f_Mo_two at hf
  refine r_rS h (fun hs0 => ?_)
  refine r_iload_n h dX12_two_0 rfl 0 rfl ?_
  by_cases hc1 : a1 = 37
  · have hf := ite_t hc1 hf
    refine r_tableIn (tgt := 144) h dX12_two_1 hc1 (rIc rfl) (by decide) (by decide) (off := 143) rfl (by decide) ?_
    refine r_iload_n h dX12_two_144 rfl 2 rfl ?_
    refine r_if_ne (tgt := 152) h dX12_two_145 (by decide) ra3 (fun hc2 => ?_) (fun hc2 => ?_)
    · have hf := ite_f hc2 hf
      refine r_iload_n h dX12_two_152 rfl 1 rfl ?_
      refine r_iload_n h dX12_two_153 rfl 2 rfl ?_
      obtain ⟨h03, hf⟩ := oc_some hf
      refine r_irem h dX12_two_154 ra2 ra3 h03 ?_
      exact r_ret1 hr dX12_two_155 (rI_tmod ra2 ra3) hf
    · have hf := ite_nf hc2 hf
      refine r_iconst h dX12_two_148 ?_
      refine r_goto (tgt := 155) h dX12_two_149 (by decide) ?_
      exact r_ret1 hr dX12_two_155 (rIc rfl) hf
  · have hf := ite_f hc1 hf
    by_cases hc4 : a1 = 38
    · have hf := ite_t hc4 hf
      refine r_tableIn (tgt := 189) h dX12_two_1 hc4 (rIc rfl) (by decide) (by decide) (off := 188) rfl (by decide) ?_
      refine r_iload_n h dX12_two_189 rfl 1 rfl ?_
      refine r_if_eq (tgt := 201) h dX12_two_190 (by decide) ra2 (fun hc5 => ?_) (fun hc5 => ?_)
      · have hf := ite_t hc5 hf
        refine r_iconst h dX12_two_201 ?_
        exact r_ret1 hr dX12_two_202 (rIc rfl) hf
      · have hf := ite_f hc5 hf
        refine r_iload_n h dX12_two_193 rfl 2 rfl ?_
        refine r_if_eq (tgt := 201) h dX12_two_194 (by decide) ra3 (fun hc6 => ?_) (fun hc6 => ?_)
        · have hf := ite_t hc6 hf
          refine r_iconst h dX12_two_201 ?_
          exact r_ret1 hr dX12_two_202 (rIc rfl) hf
        · have hf := ite_f hc6 hf
          refine r_iconst h dX12_two_197 ?_
          refine r_goto (tgt := 202) h dX12_two_198 (by decide) ?_
          exact r_ret1 hr dX12_two_202 (rIc rfl) hf
    · have hf := ite_f hc4 hf
      by_cases hc7 : a1 = 42
      · have hf := ite_t hc7 hf
        refine r_tableIn (tgt := 128) h dX12_two_1 hc7 (rIc rfl) (by decide) (by decide) (off := 127) rfl (by decide) ?_
        refine r_iload_n h dX12_two_128 rfl 1 rfl ?_
        refine r_iload_n h dX12_two_129 rfl 2 rfl ?_
        refine r_imul h dX12_two_130 ?_
        exact r_ret1 hr dX12_two_131 (rI_iw _) hf
      · have hf := ite_f hc7 hf
        by_cases hc8 : a1 = 43
        · have hf := ite_t hc8 hf
          refine r_tableIn (tgt := 120) h dX12_two_1 hc8 (rIc rfl) (by decide) (by decide) (off := 119) rfl (by decide) ?_
          refine r_iload_n h dX12_two_120 rfl 1 rfl ?_
          refine r_iload_n h dX12_two_121 rfl 2 rfl ?_
          refine r_iadd h dX12_two_122 ?_
          exact r_ret1 hr dX12_two_123 (rI_iw _) hf
        · have hf := ite_f hc8 hf
          by_cases hc9 : a1 = 45
          · have hf := ite_t hc9 hf
            refine r_tableIn (tgt := 124) h dX12_two_1 hc9 (rIc rfl) (by decide) (by decide) (off := 123) rfl (by decide) ?_
            refine r_iload_n h dX12_two_124 rfl 1 rfl ?_
            refine r_iload_n h dX12_two_125 rfl 2 rfl ?_
            refine r_isub h dX12_two_126 ?_
            exact r_ret1 hr dX12_two_127 (rI_iw _) hf
          · have hf := ite_f hc9 hf
            by_cases hc10 : a1 = 47
            · have hf := ite_t hc10 hf
              refine r_tableIn (tgt := 132) h dX12_two_1 hc10 (rIc rfl) (by decide) (by decide) (off := 131) rfl (by decide) ?_
              refine r_iload_n h dX12_two_132 rfl 2 rfl ?_
              refine r_if_ne (tgt := 140) h dX12_two_133 (by decide) ra3 (fun hc11 => ?_) (fun hc11 => ?_)
              · have hf := ite_f hc11 hf
                refine r_iload_n h dX12_two_140 rfl 1 rfl ?_
                refine r_iload_n h dX12_two_141 rfl 2 rfl ?_
                obtain ⟨h012, hf⟩ := oc_some hf
                refine r_idiv h dX12_two_142 ra2 ra3 h012 ?_
                exact r_ret1 hr dX12_two_143 (rI_iw _) hf
              · have hf := ite_nf hc11 hf
                refine r_iconst h dX12_two_136 ?_
                refine r_goto (tgt := 143) h dX12_two_137 (by decide) ?_
                exact r_ret1 hr dX12_two_143 (rIc rfl) hf
            · have hf := ite_f hc10 hf
              by_cases hc13 : a1 = 60
              · have hf := ite_t hc13 hf
                refine r_tableIn (tgt := 156) h dX12_two_1 hc13 (rIc rfl) (by decide) (by decide) (off := 155) rfl (by decide) ?_
                refine r_iload_n h dX12_two_156 rfl 1 rfl ?_
                refine r_iload_n h dX12_two_157 rfl 2 rfl ?_
                refine r_icmp_ge (tgt := 165) h dX12_two_158 (by decide) ra2 ra3 (fun hc14 => ?_) (fun hc14 => ?_)
                · have hf := ite_t hc14 hf
                  refine r_iconst h dX12_two_165 ?_
                  exact r_ret1 hr dX12_two_166 (rIc rfl) hf
                · have hf := ite_f hc14 hf
                  refine r_iconst h dX12_two_161 ?_
                  refine r_goto (tgt := 166) h dX12_two_162 (by decide) ?_
                  exact r_ret1 hr dX12_two_166 (rIc rfl) hf
              · have hf := ite_f hc13 hf
                by_cases hc15 : a1 = 61
                · have hf := ite_t hc15 hf
                  refine r_tableIn (tgt := 178) h dX12_two_1 hc15 (rIc rfl) (by decide) (by decide) (off := 177) rfl (by decide) ?_
                  refine r_iload_n h dX12_two_178 rfl 1 rfl ?_
                  refine r_iload_n h dX12_two_179 rfl 2 rfl ?_
                  refine r_icmp_ne (tgt := 187) h dX12_two_180 (by decide) ra2 ra3 (fun hc16 => ?_) (fun hc16 => ?_)
                  · have hf := ite_f hc16 hf
                    refine r_iconst h dX12_two_187 ?_
                    exact r_ret1 hr dX12_two_188 (rIc rfl) hf
                  · have hf := ite_nf hc16 hf
                    refine r_iconst h dX12_two_183 ?_
                    refine r_goto (tgt := 188) h dX12_two_184 (by decide) ?_
                    exact r_ret1 hr dX12_two_188 (rIc rfl) hf
                · have hf := ite_f hc15 hf
                  by_cases hc17 : a1 = 62
                  · have hf := ite_t hc17 hf
                    refine r_tableIn (tgt := 167) h dX12_two_1 hc17 (rIc rfl) (by decide) (by decide) (off := 166) rfl (by decide) ?_
                    refine r_iload_n h dX12_two_167 rfl 1 rfl ?_
                    refine r_iload_n h dX12_two_168 rfl 2 rfl ?_
                    refine r_icmp_le (tgt := 176) h dX12_two_169 (by decide) ra2 ra3 (fun hc18 => ?_) (fun hc18 => ?_)
                    · have hf := ite_t hc18 hf
                      refine r_iconst h dX12_two_176 ?_
                      exact r_ret1 hr dX12_two_177 (rIc rfl) hf
                    · have hf := ite_f hc18 hf
                      refine r_iconst h dX12_two_172 ?_
                      refine r_goto (tgt := 177) h dX12_two_173 (by decide) ?_
                      exact r_ret1 hr dX12_two_177 (rIc rfl) hf
                  · have hf := ite_f hc17 hf
                    refine r_tableX (tgt := 203) h dX12_two_1 ra1 (by
                      have hz : a1 < 37 ∨ 62 < a1 ∨ a1 = 39 ∨ a1 = 40 ∨ a1 = 41 ∨ a1 = 44 ∨ a1 = 46 ∨ a1 = 48 ∨ a1 = 49 ∨ a1 = 50 ∨ a1 = 51 ∨ a1 = 52 ∨ a1 = 53 ∨ a1 = 54 ∨ a1 = 55 ∨ a1 = 56 ∨ a1 = 57 ∨ a1 = 58 ∨ a1 = 59 := by omega
                      rcases hz with q | q | q | q | q | q | q | q | q | q | q | q | q | q | q | q | q | q | q
                      · exact Or.inl q
                      · exact Or.inr (Or.inl q)
                      · exact Or.inr (Or.inr ⟨202, by rw [q]; rfl, by rw [q]; decide, by rw [q]; decide, by decide⟩)
                      · exact Or.inr (Or.inr ⟨202, by rw [q]; rfl, by rw [q]; decide, by rw [q]; decide, by decide⟩)
                      · exact Or.inr (Or.inr ⟨202, by rw [q]; rfl, by rw [q]; decide, by rw [q]; decide, by decide⟩)
                      · exact Or.inr (Or.inr ⟨202, by rw [q]; rfl, by rw [q]; decide, by rw [q]; decide, by decide⟩)
                      · exact Or.inr (Or.inr ⟨202, by rw [q]; rfl, by rw [q]; decide, by rw [q]; decide, by decide⟩)
                      · exact Or.inr (Or.inr ⟨202, by rw [q]; rfl, by rw [q]; decide, by rw [q]; decide, by decide⟩)
                      · exact Or.inr (Or.inr ⟨202, by rw [q]; rfl, by rw [q]; decide, by rw [q]; decide, by decide⟩)
                      · exact Or.inr (Or.inr ⟨202, by rw [q]; rfl, by rw [q]; decide, by rw [q]; decide, by decide⟩)
                      · exact Or.inr (Or.inr ⟨202, by rw [q]; rfl, by rw [q]; decide, by rw [q]; decide, by decide⟩)
                      · exact Or.inr (Or.inr ⟨202, by rw [q]; rfl, by rw [q]; decide, by rw [q]; decide, by decide⟩)
                      · exact Or.inr (Or.inr ⟨202, by rw [q]; rfl, by rw [q]; decide, by rw [q]; decide, by decide⟩)
                      · exact Or.inr (Or.inr ⟨202, by rw [q]; rfl, by rw [q]; decide, by rw [q]; decide, by decide⟩)
                      · exact Or.inr (Or.inr ⟨202, by rw [q]; rfl, by rw [q]; decide, by rw [q]; decide, by decide⟩)
                      · exact Or.inr (Or.inr ⟨202, by rw [q]; rfl, by rw [q]; decide, by rw [q]; decide, by decide⟩)
                      · exact Or.inr (Or.inr ⟨202, by rw [q]; rfl, by rw [q]; decide, by rw [q]; decide, by decide⟩)
                      · exact Or.inr (Or.inr ⟨202, by rw [q]; rfl, by rw [q]; decide, by rw [q]; decide, by decide⟩)
                      · exact Or.inr (Or.inr ⟨202, by rw [q]; rfl, by rw [q]; decide, by rw [q]; decide, by decide⟩)
                      ) (by decide) ?_
                    refine r_iload_n h dX12_two_203 rfl 1 rfl ?_
                    refine r_if_ne (tgt := 211) h dX12_two_204 (by decide) ra2 (fun hc19 => ?_) (fun hc19 => ?_)
                    · have hf := ite_f hc19 hf
                      refine r_iconst h dX12_two_211 ?_
                      refine r_goto (tgt := 216) h dX12_two_212 (by decide) ?_
                      exact r_ret1 hr dX12_two_216 (rIc rfl) hf
                    · have hf := ite_nf hc19 hf
                      refine r_iload_n h dX12_two_207 rfl 2 rfl ?_
                      refine r_if_eq (tgt := 215) h dX12_two_208 (by decide) ra3 (fun hc20 => ?_) (fun hc20 => ?_)
                      · have hf := ite_t hc20 hf
                        refine r_iconst h dX12_two_215 ?_
                        exact r_ret1 hr dX12_two_216 (rIc rfl) hf
                      · have hf := ite_f hc20 hf
                        refine r_iconst h dX12_two_211 ?_
                        refine r_goto (tgt := 216) h dX12_two_212 (by decide) ?_
                        exact r_ret1 hr dX12_two_216 (rIc rfl) hf
set_option maxRecDepth 20000 in
theorem m_Mo_asked {l : Launch} {D : va_G} {cs : Nat → ClassId} {aS aV : Nat} {A : Nat → Prop} {ad : Nat → Nat} {n : Nat} {nl : Nat → Nat → Bool} {out : Int × SS} (hw : w_WH n nl) (ht : 86 < n) {a1 : Int} (ra1 : rI a1) {a2 : Int} (ra2 : rI a2) {s0 : SS} (hs0 : rS s0) (hf : f_Mo_asked a1 a2 s0 = some out) : w_MC l D cs aS aV A yX12_asked cX12_asked 3 1 rm_Mo_asked ad n nl [.ref (ad 86), .int (vI a1), .int (vI a2)] s0 (w_Po ad n nl out) := by
  refine w_MC_of (by decide +kernel) (by decide) hs0 (Nat.le_of_ble_eq_true rfl) (fun K h hr => ?_)
  refine r_lv (lv' := [(0, .ref (ad 86)), (1, .int (vI a1)), (2, .int (vI a2))]) rfl ?_
  unfold f_Mo_asked at hf
  refine r_rS h (fun hs0 => ?_)
  refine r_iload_n h dX12_asked_0 rfl 1 rfl ?_
  by_cases hc1 : a1 = 98
  · have hf := ite_t hc1 hf
    refine r_tableIn (tgt := 103) h dX12_asked_1 hc1 (rIc rfl) (by decide) (by decide) (off := 102) rfl (by decide) ?_
    refine r_aload_n h dX12_asked_103 rfl 0 rfl ?_
    refine g_X12_384 h dX12_asked_104 ht rC_86 ?_
    exact r_ret1 hr dX12_asked_107 (hs0.1 _ _) hf
  · have hf := ite_f hc1 hf
    by_cases hc2 : a1 = 103
    · have hf := ite_t hc2 hf
      refine r_tableIn (tgt := 93) h dX12_asked_1 hc2 (rIc rfl) (by decide) (by decide) (off := 92) rfl (by decide) ?_
      refine r_aload_n h dX12_asked_93 rfl 0 rfl ?_
      refine g_X12_378 h dX12_asked_94 ht rC_86 ?_
      exact r_ret1 hr dX12_asked_97 (hs0.1 _ _) hf
    · have hf := ite_f hc2 hf
      by_cases hc3 : a1 = 104
      · have hf := ite_t hc3 hf
        refine r_tableIn (tgt := 88) h dX12_asked_1 hc3 (rIc rfl) (by decide) (by decide) (off := 87) rfl (by decide) ?_
        refine r_aload_n h dX12_asked_88 rfl 0 rfl ?_
        refine g_X12_375 h dX12_asked_89 ht rC_86 ?_
        exact r_ret1 hr dX12_asked_92 (hs0.1 _ _) hf
      · have hf := ite_f hc3 hf
        by_cases hc4 : a1 = 108
        · have hf := ite_t hc4 hf
          refine r_tableIn (tgt := 113) h dX12_asked_1 hc4 (rIc rfl) (by decide) (by decide) (off := 112) rfl (by decide) ?_
          refine r_aload_n h dX12_asked_113 rfl 0 rfl ?_
          refine g_X12_390 h dX12_asked_114 ht rC_86 ?_
          exact r_ret1 hr dX12_asked_117 (hs0.1 _ _) hf
        · have hf := ite_f hc4 hf
          by_cases hc5 : a1 = 109
          · have hf := ite_t hc5 hf
            refine r_tableIn (tgt := 108) h dX12_asked_1 hc5 (rIc rfl) (by decide) (by decide) (off := 107) rfl (by decide) ?_
            refine r_aload_n h dX12_asked_108 rfl 0 rfl ?_
            refine g_X12_387 h dX12_asked_109 ht rC_86 ?_
            exact r_ret1 hr dX12_asked_112 (hs0.1 _ _) hf
          · have hf := ite_f hc5 hf
            by_cases hc6 : a1 = 115
            · have hf := ite_t hc6 hf
              refine r_tableIn (tgt := 98) h dX12_asked_1 hc6 (rIc rfl) (by decide) (by decide) (off := 97) rfl (by decide) ?_
              refine r_aload_n h dX12_asked_98 rfl 0 rfl ?_
              refine g_X12_381 h dX12_asked_99 ht rC_86 ?_
              exact r_ret1 hr dX12_asked_102 (hs0.1 _ _) hf
            · have hf := ite_f hc6 hf
              refine r_tableX (tgt := 118) h dX12_asked_1 ra1 (by
                have hz : a1 < 98 ∨ 115 < a1 ∨ a1 = 99 ∨ a1 = 100 ∨ a1 = 101 ∨ a1 = 102 ∨ a1 = 105 ∨ a1 = 106 ∨ a1 = 107 ∨ a1 = 110 ∨ a1 = 111 ∨ a1 = 112 ∨ a1 = 113 ∨ a1 = 114 := by omega
                rcases hz with q | q | q | q | q | q | q | q | q | q | q | q | q | q
                · exact Or.inl q
                · exact Or.inr (Or.inl q)
                · exact Or.inr (Or.inr ⟨117, by rw [q]; rfl, by rw [q]; decide, by rw [q]; decide, by decide⟩)
                · exact Or.inr (Or.inr ⟨117, by rw [q]; rfl, by rw [q]; decide, by rw [q]; decide, by decide⟩)
                · exact Or.inr (Or.inr ⟨117, by rw [q]; rfl, by rw [q]; decide, by rw [q]; decide, by decide⟩)
                · exact Or.inr (Or.inr ⟨117, by rw [q]; rfl, by rw [q]; decide, by rw [q]; decide, by decide⟩)
                · exact Or.inr (Or.inr ⟨117, by rw [q]; rfl, by rw [q]; decide, by rw [q]; decide, by decide⟩)
                · exact Or.inr (Or.inr ⟨117, by rw [q]; rfl, by rw [q]; decide, by rw [q]; decide, by decide⟩)
                · exact Or.inr (Or.inr ⟨117, by rw [q]; rfl, by rw [q]; decide, by rw [q]; decide, by decide⟩)
                · exact Or.inr (Or.inr ⟨117, by rw [q]; rfl, by rw [q]; decide, by rw [q]; decide, by decide⟩)
                · exact Or.inr (Or.inr ⟨117, by rw [q]; rfl, by rw [q]; decide, by rw [q]; decide, by decide⟩)
                · exact Or.inr (Or.inr ⟨117, by rw [q]; rfl, by rw [q]; decide, by rw [q]; decide, by decide⟩)
                · exact Or.inr (Or.inr ⟨117, by rw [q]; rfl, by rw [q]; decide, by rw [q]; decide, by decide⟩)
                · exact Or.inr (Or.inr ⟨117, by rw [q]; rfl, by rw [q]; decide, by rw [q]; decide, by decide⟩)
                ) (by decide) ?_
              refine r_iload_n h dX12_asked_118 rfl 2 rfl ?_
              exact r_ret1 hr dX12_asked_119 ra2 hf
set_option maxRecDepth 20000 in
theorem b_Mo_comes_71 {l : Launch} {D : va_G} {cs : Nat → ClassId} {aS aV : Nat} {A : Nat → Prop} {K : KT} {ad : Nat → Nat} {n : Nat} {nl : Nat → Nat → Bool} {out : Int × SS} (h : w_Cl l rm_Mo_comes D cs aS aV A cX12_comes 5 RX12 "comes" K) (hr : w_Rt 1 cX12_comes 0 0 (w_Po ad n nl out) K) (hw : w_WH n nl) (ht : 86 < n) (x1 : Int) (x2 : Int) (x3 : Int) (z1 : Int) (z2 : Int) (self16 : Int → Int → SS → OO) (hself16 : ∀ (x2 : Int) (x3 : Int) (τ : SS), rI x2 → rI x3 → self16 x2 x3 τ = some out → K ad n nl 0 0 16 [(0, .ref (ad 86)), (1, .int (vI x1)), (2, .int (vI x2)), (3, .int (vI x3))] [] τ) (s0 : SS) (rx1 : rI x1) (rx2 : rI x2) (rx3 : rI x3) (rz1 : rI z1) (rz2 : rI z2) (hf : j_Mo_comes_71 self16 x1 x2 x3 z1 z2 s0 = some out) : K ad n nl 0 0 71 [(0, .ref (ad 86)), (1, .int (vI x1)), (2, .int (vI x2)), (3, .int (vI x3))] [.int (vI z2), .int (vI z1), .ref (ad 117)] s0 := by
  unfold j_Mo_comes_71 at hf
  have q117_0 := w_ref hw ht rC_86 (by decide) (k := 39) (by decide) rf_12_39
  refine r_rS h (fun hs0 => ?_)
  obtain ⟨hi1, hf⟩ := oc_some hf
  refine r_iast h dX12_comes_71 q117_0.2 rC_117 rz1 (N := 60) (by rw [rN_117]; rfl) (j := (z1).toNat) rfl hi1 rz2 ?_
  refine r_os hf (fun s2 hf => ?_)
  refine r_rS h (fun hs2 => ?_)
  refine r_goto (tgt := 137) h dX12_comes_72 (by decide) ?_
  refine r_iinc h [(3, .int (vI (iw (x3 + 1)))), (0, .ref (ad 86)), (1, .int (vI x1)), (2, .int (vI x2))] dX12_comes_137 3 rfl (by decide) rfl ?_
  refine r_goto (tgt := 16) h dX12_comes_140 (by decide) ?_
  refine r_sub h [1, 2, 3, 0] rfl ?_
  exact hself16 x2 (iw (x3 + 1)) s2 rx2 (rI_iw _) hf
set_option maxRecDepth 20000 in
theorem b_Mo_comes_16 {l : Launch} {D : va_G} {cs : Nat → ClassId} {aS aV : Nat} {A : Nat → Prop} {K : KT} {ad : Nat → Nat} {n : Nat} {nl : Nat → Nat → Bool} {out : Int × SS} (h : w_Cl l rm_Mo_comes D cs aS aV A cX12_comes 5 RX12 "comes" K) (hr : w_Rt 1 cX12_comes 0 0 (w_Po ad n nl out) K) (hw : w_WH n nl) (ht : 86 < n) {y1 : Int} (ry1 : rI y1) : ∀ (fu : Nat) (x2 : Int) (x3 : Int) (s0 : SS), rI x2 → rI x3 → l_Mo_comes_16 y1 fu x2 x3 s0 = some out → K ad n nl 0 0 16 [(0, .ref (ad 86)), (1, .int (vI y1)), (2, .int (vI x2)), (3, .int (vI x3))] [] s0 := by
  intro fu
  induction fu with
  | zero =>
    intro x2 x3 s0 rx2 rx3 hf
    rw [l_Mo_comes_16] at hf
    cases hf
  | succ fu ih =>
    intro x2 x3 s0 rx2 rx3 hf
    rw [l_Mo_comes_16] at hf
    refine r_rS h (fun hs0 => ?_)
    refine r_iload_n h dX12_comes_16 rfl 3 rfl ?_
    refine r_aload_n h dX12_comes_17 rfl 0 rfl ?_
    have hq1 := w_ref hw ht rC_86 (by decide) (k := 29) (by decide) rf_12_29
    refine g_X12_75 h dX12_comes_18 ht rC_86 hq1.1 ?_
    refine r_iconst h dX12_comes_21 ?_
    refine r_aload_n h dX12_comes_22 rfl 0 rfl ?_
    refine g_X12_295 h dX12_comes_23 ht rC_86 ?_
    refine r_imul h dX12_comes_26 ?_
    refine r_iload_n h dX12_comes_27 rfl 1 rfl ?_
    refine r_iadd h dX12_comes_28 ?_
    obtain ⟨hi2, hf⟩ := oc_some hf
    refine r_iald h dX12_comes_29 hq1.2 rC_107 (rI_iw _) (N := 4) (by rw [rN_107]; rfl) (j := (iw ((iw (2 * (gi s0 86 40))) + y1)).toNat) rfl hi2 ?_
    refine r_icmp_ge (tgt := 143) h dX12_comes_30 (by decide) rx3 (hs0.1 _ _) (fun hc3 => ?_) (fun hc3 => ?_)
    · have hf := ite_t hc3 hf
      refine r_aload_n h dX12_comes_143 rfl 0 rfl ?_
      have hq4 := w_ref hw ht rC_86 (by decide) (k := 39) (by decide) rf_12_39
      refine g_X12_107 h dX12_comes_144 ht rC_86 hq4.1 ?_
      refine r_iconst h dX12_comes_147 ?_
      refine r_iald h dX12_comes_148 hq4.2 rC_117 (rIc rfl) (N := 60) (by rw [rN_117]; rfl) (j := 0) rfl (by decide) ?_
      exact r_ret1 hr dX12_comes_149 (hs0.1 _ _) hf
    · have hf := ite_f hc3 hf
      refine r_aload_n h dX12_comes_33 rfl 0 rfl ?_
      have hq5 := w_ref hw ht rC_86 (by decide) (k := 35) (by decide) rf_12_35
      refine g_X12_95 h dX12_comes_34 ht rC_86 hq5.1 ?_
      refine r_iload_n h dX12_comes_37 rfl 3 rfl ?_
      obtain ⟨hi6, hf⟩ := oc_some hf
      refine r_iald h dX12_comes_38 hq5.2 rC_113 rx3 (N := 1120) (by rw [rN_113]; rfl) (j := (x3).toNat) rfl hi6 ?_
      refine r_ol hf (hs0.1 _ _) (fun x7_ rx7_ hf => ?_)
      refine r_istore h [(4, .int (vI x7_)), (0, .ref (ad 86)), (1, .int (vI y1)), (2, .int (vI x2)), (3, .int (vI x3))] dX12_comes_39 (by decide) rfl ?_
      refine r_iload h dX12_comes_41 0 rfl ?_
      refine r_bipush h dX12_comes_43 (by decide) ?_
      refine r_icmp_ne (tgt := 75) h dX12_comes_45 (by decide) rx7_ (rIc rfl) (fun hc8 => ?_) (fun hc8 => ?_)
      · have hf := ite_f hc8 hf
        refine r_iload h dX12_comes_75 0 rfl ?_
        obtain ⟨r9, s9, hq9, hf⟩ := ob_some hf
        refine r_callS2 h [.int (vI x7_)] dX12_comes_77 (fun hs => m_Mo_isLetter hw rx7_ hs hq9) ml_X12_240 cv_Mo_isLetter rfl ⟨rfl, rfl⟩ ⟨Nat.le_of_ble_eq_true rfl, Nat.le_of_ble_eq_true rfl⟩ ⟨Nat.le_of_ble_eq_true rfl, Nat.le_of_ble_eq_true rfl⟩ (Nat.le_of_ble_eq_true rfl) rfl (fun hr9 hs9 => ?_)
        refine r_if_eq (tgt := 107) h dX12_comes_80 (by decide) (rI_b hr9) (fun hc10 => ?_) (fun hc10 => ?_)
        · have hf := ite_t hc10 hf
          refine r_iinc h [(2, .int (vI (iw (x2 + (-1))))), (4, .int (vI x7_)), (0, .ref (ad 86)), (1, .int (vI y1)), (3, .int (vI x3))] dX12_comes_107 3 rfl (by decide) rfl ?_
          refine r_aload_n h dX12_comes_110 rfl 2 rfl ?_
          have hq11 := w_ref hw ht rC_86 (by decide) (k := 39) (by decide) rf_12_39
          refine g_X12_107 h dX12_comes_111 ht rC_86 hq11.1 ?_
          refine r_iload_n h dX12_comes_114 rfl 0 rfl ?_
          refine r_iconst h dX12_comes_115 ?_
          refine r_isub h dX12_comes_116 ?_
          refine r_iload h dX12_comes_117 1 rfl ?_
          refine r_aload_n h dX12_comes_119 rfl 2 rfl ?_
          have hq12 := w_ref hw ht rC_86 (by decide) (k := 39) (by decide) rf_12_39
          refine g_X12_107 h dX12_comes_120 ht rC_86 hq12.1 ?_
          refine r_iload_n h dX12_comes_123 rfl 0 rfl ?_
          refine r_iconst h dX12_comes_124 ?_
          refine r_isub h dX12_comes_125 ?_
          obtain ⟨hi13, hf⟩ := oc_some hf
          refine r_iald h dX12_comes_126 hq12.2 rC_117 (rI_iw _) (N := 60) (by rw [rN_117]; rfl) (j := (iw ((iw (x2 + (-1))) - 1)).toNat) rfl hi13 ?_
          refine r_aload_n h dX12_comes_127 rfl 2 rfl ?_
          have hq14 := w_ref hw ht rC_86 (by decide) (k := 39) (by decide) rf_12_39
          refine g_X12_107 h dX12_comes_128 ht rC_86 hq14.1 ?_
          refine r_iload_n h dX12_comes_131 rfl 0 rfl ?_
          obtain ⟨hi15, hf⟩ := oc_some hf
          refine r_iald h dX12_comes_132 hq14.2 rC_117 (rI_iw _) (N := 60) (by rw [rN_117]; rfl) (j := (iw (x2 + (-1))).toNat) rfl hi15 ?_
          obtain ⟨r16, s16, hq16, hf⟩ := ob_some hf
          refine r_callS1 h [.int (vI x7_), .int (vI (gi s9 117 ((iw ((iw (x2 + (-1))) - 1)).toNat))), .int (vI (gi s9 117 ((iw (x2 + (-1))).toNat)))] dX12_comes_133 (fun hs => m_Mo_two hw rx7_ (hs9.1 _ _) (hs9.1 _ _) hs hq16) ml_X12_396 cv_Mo_two rfl ⟨rfl, rfl⟩ ⟨Nat.le_of_ble_eq_true rfl, Nat.le_of_ble_eq_true rfl⟩ ⟨Nat.le_of_ble_eq_true rfl, Nat.le_of_ble_eq_true rfl⟩ (Nat.le_of_ble_eq_true rfl) rfl (fun hr16 hs16 => ?_)
          obtain ⟨hi17, hf⟩ := oc_some hf
          refine r_iast h dX12_comes_136 hq11.2 rC_117 (rI_iw _) (N := 60) (by rw [rN_117]; rfl) (j := (iw ((iw (x2 + (-1))) - 1)).toNat) rfl hi17 hr16 ?_
          refine r_os hf (fun s18 hf => ?_)
          refine r_rS h (fun hs18 => ?_)
          refine r_iinc h [(3, .int (vI (iw (x3 + 1)))), (2, .int (vI (iw (x2 + (-1))))), (4, .int (vI x7_)), (0, .ref (ad 86)), (1, .int (vI y1))] dX12_comes_137 4 rfl (by decide) rfl ?_
          refine r_goto (tgt := 16) h dX12_comes_140 (by decide) ?_
          refine r_sub h [3, 4, 1, 0] rfl ?_
          exact ih (iw (x2 + (-1))) (iw (x3 + 1)) s18 (rI_iw _) (rI_iw _) hf
        · have hf := ite_f hc10 hf
          refine r_aload_n h dX12_comes_83 rfl 1 rfl ?_
          have hq19 := w_ref hw ht rC_86 (by decide) (k := 39) (by decide) rf_12_39
          refine g_X12_107 h dX12_comes_84 ht rC_86 hq19.1 ?_
          refine r_iload_n h dX12_comes_87 rfl 3 rfl ?_
          refine r_aload_n h dX12_comes_88 rfl 1 rfl ?_
          refine r_iload h dX12_comes_89 0 rfl ?_
          refine r_aload_n h dX12_comes_91 rfl 1 rfl ?_
          have hq20 := w_ref hw ht rC_86 (by decide) (k := 36) (by decide) rf_12_36
          refine g_X12_98 h dX12_comes_92 ht rC_86 hq20.1 ?_
          refine r_iload_n h dX12_comes_95 rfl 4 rfl ?_
          obtain ⟨hi21, hf⟩ := oc_some hf
          refine r_iald h dX12_comes_96 hq20.2 rC_114 rx3 (N := 1120) (by rw [rN_114]; rfl) (j := (x3).toNat) rfl hi21 ?_
          obtain ⟨r22, s22, hq22, hf⟩ := ob_some hf
          refine r_callV1 h [.int (vI x7_), .int (vI (gi s9 114 ((x3).toNat)))] dX12_comes_97 (fun hs => m_Mo_asked hw ht rx7_ (hs9.1 _ _) hs hq22) ml_X12_393 cv_Mo_asked rfl (co := 12) rfl (by decide) ht rC_86 ⟨rfl, rfl⟩ ⟨Nat.le_of_ble_eq_true rfl, Nat.le_of_ble_eq_true rfl⟩ ⟨Nat.le_of_ble_eq_true rfl, Nat.le_of_ble_eq_true rfl⟩ (Nat.le_of_ble_eq_true rfl) rfl (fun hr22 hs22 => ?_)
          obtain ⟨hi23, hf⟩ := oc_some hf
          refine r_iast h dX12_comes_100 hq19.2 rC_117 rx2 (N := 60) (by rw [rN_117]; rfl) (j := (x2).toNat) rfl hi23 hr22 ?_
          refine r_os hf (fun s24 hf => ?_)
          refine r_rS h (fun hs24 => ?_)
          refine r_iinc h [(2, .int (vI (iw (x2 + 1)))), (4, .int (vI x7_)), (0, .ref (ad 86)), (1, .int (vI y1)), (3, .int (vI x3))] dX12_comes_101 3 rfl (by decide) rfl ?_
          refine r_goto (tgt := 137) h dX12_comes_104 (by decide) ?_
          refine r_iinc h [(3, .int (vI (iw (x3 + 1)))), (2, .int (vI (iw (x2 + 1)))), (4, .int (vI x7_)), (0, .ref (ad 86)), (1, .int (vI y1))] dX12_comes_137 4 rfl (by decide) rfl ?_
          refine r_goto (tgt := 16) h dX12_comes_140 (by decide) ?_
          refine r_sub h [3, 4, 1, 0] rfl ?_
          exact ih (iw (x2 + 1)) (iw (x3 + 1)) s24 (rI_iw _) (rI_iw _) hf
      · have hf := ite_nf hc8 hf
        refine r_aload_n h dX12_comes_48 rfl 1 rfl ?_
        have hq25 := w_ref hw ht rC_86 (by decide) (k := 39) (by decide) rf_12_39
        refine g_X12_107 h dX12_comes_49 ht rC_86 hq25.1 ?_
        refine r_iload_n h dX12_comes_52 rfl 3 rfl ?_
        refine r_iconst h dX12_comes_53 ?_
        refine r_isub h dX12_comes_54 ?_
        refine r_aload_n h dX12_comes_55 rfl 1 rfl ?_
        have hq26 := w_ref hw ht rC_86 (by decide) (k := 39) (by decide) rf_12_39
        refine g_X12_107 h dX12_comes_56 ht rC_86 hq26.1 ?_
        refine r_iload_n h dX12_comes_59 rfl 3 rfl ?_
        refine r_iconst h dX12_comes_60 ?_
        refine r_isub h dX12_comes_61 ?_
        obtain ⟨hi27, hf⟩ := oc_some hf
        refine r_iald h dX12_comes_62 hq26.2 rC_117 (rI_iw _) (N := 60) (by rw [rN_117]; rfl) (j := (iw (x2 - 1)).toNat) rfl hi27 ?_
        refine r_if_ne (tgt := 70) h dX12_comes_63 (by decide) (hs0.1 _ _) (fun hc28 => ?_) (fun hc28 => ?_)
        · have hf := ite_f hc28 hf
          refine r_iconst h dX12_comes_70 ?_
          refine r_sub h [1, 2, 3, 4] rfl ?_
          exact b_Mo_comes_71 h hr hw ht y1 x2 x3 (iw (x2 - 1)) 0 (l_Mo_comes_16 y1 fu) ih s0 ry1 rx2 rx3 (rI_iw _) (rIc rfl) hf
        · have hf := ite_nf hc28 hf
          refine r_iconst h dX12_comes_66 ?_
          refine r_goto (tgt := 71) h dX12_comes_67 (by decide) ?_
          refine r_sub h [1, 2, 3, 4] rfl ?_
          exact b_Mo_comes_71 h hr hw ht y1 x2 x3 (iw (x2 - 1)) 1 (l_Mo_comes_16 y1 fu) ih s0 ry1 rx2 rx3 (rI_iw _) (rIc rfl) hf
set_option maxRecDepth 20000 in
theorem m_Mo_comes {l : Launch} {D : va_G} {cs : Nat → ClassId} {aS aV : Nat} {A : Nat → Prop} {ad : Nat → Nat} {n : Nat} {nl : Nat → Nat → Bool} {out : Int × SS} (hw : w_WH n nl) (ht : 86 < n) {a1 : Int} (ra1 : rI a1) {s0 : SS} (hs0 : rS s0) (hf : f_Mo_comes a1 s0 = some out) : w_MC l D cs aS aV A yX12_comes cX12_comes 5 1 rm_Mo_comes ad n nl [.ref (ad 86), .int (vI a1)] s0 (w_Po ad n nl out) := by
  refine w_MC_of (by decide +kernel) (by decide) hs0 (Nat.le_of_ble_eq_true rfl) (fun K h hr => ?_)
  refine r_lv (lv' := [(0, .ref (ad 86)), (1, .int (vI a1))]) rfl ?_
  unfold f_Mo_comes at hf
  refine r_rS h (fun hs0 => ?_)
  refine r_iconst h dX12_comes_0 ?_
  refine r_istore_n h [(2, .int (vI 0)), (0, .ref (ad 86)), (1, .int (vI a1))] dX12_comes_1 rfl (by decide) rfl ?_
  refine r_aload_n h dX12_comes_2 rfl 1 rfl ?_
  have hq1 := w_ref hw ht rC_86 (by decide) (k := 28) (by decide) rf_12_28
  refine g_X12_72 h dX12_comes_3 ht rC_86 hq1.1 ?_
  refine r_iconst h dX12_comes_6 ?_
  refine r_aload_n h dX12_comes_7 rfl 1 rfl ?_
  refine g_X12_295 h dX12_comes_8 ht rC_86 ?_
  refine r_imul h dX12_comes_11 ?_
  refine r_iload_n h dX12_comes_12 rfl 2 rfl ?_
  refine r_iadd h dX12_comes_13 ?_
  obtain ⟨hi2, hf⟩ := oc_some hf
  refine r_iald h dX12_comes_14 hq1.2 rC_106 (rI_iw _) (N := 4) (by rw [rN_106]; rfl) (j := (iw ((iw (2 * (gi s0 86 40))) + a1)).toNat) rfl hi2 ?_
  refine r_ol hf (hs0.1 _ _) (fun x3_ rx3_ hf => ?_)
  refine r_istore_n h [(3, .int (vI x3_)), (2, .int (vI 0)), (0, .ref (ad 86)), (1, .int (vI a1))] dX12_comes_15 rfl (by decide) rfl ?_
  refine r_sub h [2, 3, 1, 0] rfl ?_
  exact b_Mo_comes_16 h hr hw ht ra1 FU 0 x3_ s0 (rIc rfl) rx3_ hf
set_option maxRecDepth 20000 in
theorem m_Mo_fault {l : Launch} {D : va_G} {cs : Nat → ClassId} {aS aV : Nat} {A : Nat → Prop} {ad : Nat → Nat} {n : Nat} {nl : Nat → Nat → Bool} {out : Int × SS} (hw : w_WH n nl) (ht : 86 < n) {a1 : Int} (ra1 : rI a1) {s0 : SS} (hs0 : rS s0) (hf : f_Mo_fault a1 s0 = some out) : w_MC l D cs aS aV A yX12_fault cX12_fault 2 1 rm_Mo_fault ad n nl [.ref (ad 86), .int (vI a1)] s0 (w_Po ad n nl out) := by
  refine w_MC_of (by decide +kernel) (by decide) hs0 (Nat.le_of_ble_eq_true rfl) (fun K h hr => ?_)
  refine r_lv (lv' := [(0, .ref (ad 86)), (1, .int (vI a1))]) rfl ?_
  unfold f_Mo_fault at hf
  refine r_rS h (fun hs0 => ?_)
  refine r_iload_n h dX12_fault_0 rfl 1 rfl ?_
  refine r_if_ne (tgt := 11) h dX12_fault_1 (by decide) ra1 (fun hc1 => ?_) (fun hc1 => ?_)
  · have hf := ite_f hc1 hf
    refine r_iload_n h dX12_fault_11 rfl 1 rfl ?_
    refine r_iconst h dX12_fault_12 ?_
    refine r_icmp_ne (tgt := 23) h dX12_fault_13 (by decide) ra1 (rIc rfl) (fun hc2 => ?_) (fun hc2 => ?_)
    · have hf := ite_f hc2 hf
      refine r_iconst h dX12_fault_23 ?_
      exact r_ret1 hr dX12_fault_24 (rIc rfl) hf
    · have hf := ite_nf hc2 hf
      refine r_aload_n h dX12_fault_16 rfl 0 rfl ?_
      refine g_X12_16 h dX12_fault_17 ht rC_86 ?_
      refine r_goto (tgt := 24) h dX12_fault_20 (by decide) ?_
      exact r_ret1 hr dX12_fault_24 (hs0.1 _ _) hf
  · have hf := ite_nf hc1 hf
    refine r_aload_n h dX12_fault_4 rfl 0 rfl ?_
    refine g_X12_182 h dX12_fault_5 ht rC_86 ?_
    refine r_goto (tgt := 24) h dX12_fault_8 (by decide) ?_
    exact r_ret1 hr dX12_fault_24 (hs0.1 _ _) hf
set_option maxRecDepth 20000 in
theorem m_Mo_isIn {l : Launch} {D : va_G} {cs : Nat → ClassId} {aS aV : Nat} {A : Nat → Prop} {ad : Nat → Nat} {n : Nat} {nl : Nat → Nat → Bool} {out : Int × SS} (hw : w_WH n nl) {a1 : Int} (ra1 : rI a1) {a2 : Int} (ra2 : rI a2) {a3 : Int} (ra3 : rI a3) {s0 : SS} (hs0 : rS s0) (hf : f_Mo_isIn a1 a2 a3 s0 = some out) : w_MC l D cs aS aV A yX12_isIn cX12_isIn 3 2 rm_Mo_isIn ad n nl [.int (vI a1), .int (vI a2), .int (vI a3)] s0 (w_Po ad n nl out) := by
  refine w_MC_of (by decide +kernel) (by decide) hs0 (Nat.le_of_ble_eq_true rfl) (fun K h hr => ?_)
  refine r_lv (lv' := [(0, .int (vI a1)), (1, .int (vI a2)), (2, .int (vI a3))]) rfl ?_
  unfold f_Mo_isIn at hf
  refine r_rS h (fun hs0 => ?_)
  refine r_iload_n h dX12_isIn_0 rfl 0 rfl ?_
  refine r_iload_n h dX12_isIn_1 rfl 1 rfl ?_
  refine r_icmp_lt (tgt := 14) h dX12_isIn_2 (by decide) ra1 ra2 (fun hc1 => ?_) (fun hc1 => ?_)
  · have hf := ite_t hc1 hf
    refine r_iconst h dX12_isIn_14 ?_
    exact r_ret2 hr dX12_isIn_15 (Or.inl rfl) hf
  · have hf := ite_f hc1 hf
    refine r_iload_n h dX12_isIn_5 rfl 0 rfl ?_
    refine r_iload_n h dX12_isIn_6 rfl 2 rfl ?_
    refine r_icmp_gt (tgt := 14) h dX12_isIn_7 (by decide) ra1 ra3 (fun hc2 => ?_) (fun hc2 => ?_)
    · have hf := ite_t hc2 hf
      refine r_iconst h dX12_isIn_14 ?_
      exact r_ret2 hr dX12_isIn_15 (Or.inl rfl) hf
    · have hf := ite_f hc2 hf
      refine r_iconst h dX12_isIn_10 ?_
      refine r_goto (tgt := 15) h dX12_isIn_11 (by decide) ?_
      exact r_ret2 hr dX12_isIn_15 (Or.inr rfl) hf
set_option maxRecDepth 20000 in
theorem m_Mo_isPlace {l : Launch} {D : va_G} {cs : Nat → ClassId} {aS aV : Nat} {A : Nat → Prop} {ad : Nat → Nat} {n : Nat} {nl : Nat → Nat → Bool} {out : Int × SS} (hw : w_WH n nl) (ht : 86 < n) {a1 : Int} (ra1 : rI a1) {s0 : SS} (hs0 : rS s0) (hf : f_Mo_isPlace a1 s0 = some out) : w_MC l D cs aS aV A yX12_isPlace cX12_isPlace 2 2 rm_Mo_isPlace ad n nl [.ref (ad 86), .int (vI a1)] s0 (w_Po ad n nl out) := by
  refine w_MC_of (by decide +kernel) (by decide) hs0 (Nat.le_of_ble_eq_true rfl) (fun K h hr => ?_)
  refine r_lv (lv' := [(0, .ref (ad 86)), (1, .int (vI a1))]) rfl ?_
  unfold f_Mo_isPlace at hf
  refine r_rS h (fun hs0 => ?_)
  refine r_iload_n h dX12_isPlace_0 rfl 1 rfl ?_
  refine r_iconst h dX12_isPlace_1 ?_
  refine r_aload_n h dX12_isPlace_2 rfl 0 rfl ?_
  have hq1 := w_ref hw ht rC_86 (by decide) (k := 11) (by decide) rf_12_11
  refine g_X12_20 h dX12_isPlace_3 ht rC_86 hq1.1 ?_
  refine r_aload_n h dX12_isPlace_6 rfl 0 rfl ?_
  refine g_X12_295 h dX12_isPlace_7 ht rC_86 ?_
  obtain ⟨hi2, hf⟩ := oc_some hf
  refine r_iald h dX12_isPlace_10 hq1.2 rC_89 (hs0.1 _ _) (N := 2) (by rw [rN_89]; rfl) (j := (gi s0 86 40).toNat) rfl hi2 ?_
  refine r_iconst h dX12_isPlace_11 ?_
  refine r_isub h dX12_isPlace_12 ?_
  obtain ⟨r3, s3, hq3, hf⟩ := ob_some hf
  refine r_callS2 h [.int (vI a1), .int (vI 0), .int (vI (iw ((gi s0 89 ((gi s0 86 40).toNat)) - 1)))] dX12_isPlace_13 (fun hs => m_Mo_isIn hw ra1 (rIc rfl) (rI_iw _) hs hq3) ml_X12_400 cv_Mo_isIn rfl ⟨rfl, rfl⟩ ⟨Nat.le_of_ble_eq_true rfl, Nat.le_of_ble_eq_true rfl⟩ ⟨Nat.le_of_ble_eq_true rfl, Nat.le_of_ble_eq_true rfl⟩ (Nat.le_of_ble_eq_true rfl) rfl (fun hr3 hs3 => ?_)
  exact r_ret2 hr dX12_isPlace_16 hr3 hf
set_option maxRecDepth 20000 in
theorem m_Mo_isWay {l : Launch} {D : va_G} {cs : Nat → ClassId} {aS aV : Nat} {A : Nat → Prop} {ad : Nat → Nat} {n : Nat} {nl : Nat → Nat → Bool} {out : Int × SS} (hw : w_WH n nl) (ht : 86 < n) {a1 : Int} (ra1 : rI a1) {s0 : SS} (hs0 : rS s0) (hf : f_Mo_isWay a1 s0 = some out) : w_MC l D cs aS aV A yX12_isWay cX12_isWay 2 2 rm_Mo_isWay ad n nl [.ref (ad 86), .int (vI a1)] s0 (w_Po ad n nl out) := by
  refine w_MC_of (by decide +kernel) (by decide) hs0 (Nat.le_of_ble_eq_true rfl) (fun K h hr => ?_)
  refine r_lv (lv' := [(0, .ref (ad 86)), (1, .int (vI a1))]) rfl ?_
  unfold f_Mo_isWay at hf
  refine r_rS h (fun hs0 => ?_)
  refine r_iload_n h dX12_isWay_0 rfl 1 rfl ?_
  refine r_iconst h dX12_isWay_1 ?_
  refine r_aload_n h dX12_isWay_2 rfl 0 rfl ?_
  have hq1 := w_ref hw ht rC_86 (by decide) (k := 12) (by decide) rf_12_12
  refine g_X12_24 h dX12_isWay_3 ht rC_86 hq1.1 ?_
  refine r_aload_n h dX12_isWay_6 rfl 0 rfl ?_
  refine g_X12_295 h dX12_isWay_7 ht rC_86 ?_
  obtain ⟨hi2, hf⟩ := oc_some hf
  refine r_iald h dX12_isWay_10 hq1.2 rC_90 (hs0.1 _ _) (N := 2) (by rw [rN_90]; rfl) (j := (gi s0 86 40).toNat) rfl hi2 ?_
  refine r_iconst h dX12_isWay_11 ?_
  refine r_isub h dX12_isWay_12 ?_
  obtain ⟨r3, s3, hq3, hf⟩ := ob_some hf
  refine r_callS2 h [.int (vI a1), .int (vI 0), .int (vI (iw ((gi s0 90 ((gi s0 86 40).toNat)) - 1)))] dX12_isWay_13 (fun hs => m_Mo_isIn hw ra1 (rIc rfl) (rI_iw _) hs hq3) ml_X12_400 cv_Mo_isIn rfl ⟨rfl, rfl⟩ ⟨Nat.le_of_ble_eq_true rfl, Nat.le_of_ble_eq_true rfl⟩ ⟨Nat.le_of_ble_eq_true rfl, Nat.le_of_ble_eq_true rfl⟩ (Nat.le_of_ble_eq_true rfl) rfl (fun hr3 hs3 => ?_)
  exact r_ret2 hr dX12_isWay_16 hr3 hf
set_option maxRecDepth 20000 in
theorem m_Mo_isCouple {l : Launch} {D : va_G} {cs : Nat → ClassId} {aS aV : Nat} {A : Nat → Prop} {ad : Nat → Nat} {n : Nat} {nl : Nat → Nat → Bool} {out : Int × SS} (hw : w_WH n nl) (ht : 86 < n) {a1 : Int} (ra1 : rI a1) {a2 : Int} (ra2 : rI a2) {a3 : Int} (ra3 : rI a3) {s0 : SS} (hs0 : rS s0) (hf : f_Mo_isCouple a1 a2 a3 s0 = some out) : w_MC l D cs aS aV A yX12_isCouple cX12_isCouple 4 2 rm_Mo_isCouple ad n nl [.ref (ad 86), .int (vI a1), .int (vI a2), .int (vI a3)] s0 (w_Po ad n nl out) := by
  refine w_MC_of (by decide +kernel) (by decide) hs0 (Nat.le_of_ble_eq_true rfl) (fun K h hr => ?_)
  refine r_lv (lv' := [(0, .ref (ad 86)), (1, .int (vI a1)), (2, .int (vI a2)), (3, .int (vI a3))]) rfl ?_
  unfold f_Mo_isCouple at hf
  refine r_rS h (fun hs0 => ?_)
  refine r_iload_n h dX12_isCouple_0 rfl 1 rfl ?_
  refine r_iconst h dX12_isCouple_1 ?_
  refine r_aload_n h dX12_isCouple_2 rfl 0 rfl ?_
  obtain ⟨r1, s1, hq1, hf⟩ := ob_some hf
  refine r_callV1 h [] dX12_isCouple_3 (fun hs => m_Mo_soulMany hw ht hs hq1) ml_X12_404 cv_Mo_soulMany rfl (co := 12) rfl (by decide) ht rC_86 ⟨rfl, rfl⟩ ⟨Nat.le_of_ble_eq_true rfl, Nat.le_of_ble_eq_true rfl⟩ ⟨Nat.le_of_ble_eq_true rfl, Nat.le_of_ble_eq_true rfl⟩ (Nat.le_of_ble_eq_true rfl) rfl (fun hr1 hs1 => ?_)
  refine r_iconst h dX12_isCouple_6 ?_
  refine r_isub h dX12_isCouple_7 ?_
  obtain ⟨r2, s2, hq2, hf⟩ := ob_some hf
  refine r_callS2 h [.int (vI a1), .int (vI 0), .int (vI (iw (r1 - 1)))] dX12_isCouple_8 (fun hs => m_Mo_isIn hw ra1 (rIc rfl) (rI_iw _) hs hq2) ml_X12_400 cv_Mo_isIn rfl ⟨rfl, rfl⟩ ⟨Nat.le_of_ble_eq_true rfl, Nat.le_of_ble_eq_true rfl⟩ ⟨Nat.le_of_ble_eq_true rfl, Nat.le_of_ble_eq_true rfl⟩ (Nat.le_of_ble_eq_true rfl) rfl (fun hr2 hs2 => ?_)
  refine r_if_eq (tgt := 56) h dX12_isCouple_11 (by decide) (rI_b hr2) (fun hc3 => ?_) (fun hc3 => ?_)
  · have hf := ite_t hc3 hf
    refine r_iconst h dX12_isCouple_56 ?_
    exact r_ret2 hr dX12_isCouple_57 (Or.inl rfl) hf
  · have hf := ite_f hc3 hf
    refine r_iload_n h dX12_isCouple_14 rfl 2 rfl ?_
    refine r_iconst h dX12_isCouple_15 ?_
    refine r_aload_n h dX12_isCouple_16 rfl 0 rfl ?_
    obtain ⟨r4, s4, hq4, hf⟩ := ob_some hf
    refine r_callV1 h [] dX12_isCouple_17 (fun hs => m_Mo_soulMany hw ht hs hq4) ml_X12_404 cv_Mo_soulMany rfl (co := 12) rfl (by decide) ht rC_86 ⟨rfl, rfl⟩ ⟨Nat.le_of_ble_eq_true rfl, Nat.le_of_ble_eq_true rfl⟩ ⟨Nat.le_of_ble_eq_true rfl, Nat.le_of_ble_eq_true rfl⟩ (Nat.le_of_ble_eq_true rfl) rfl (fun hr4 hs4 => ?_)
    refine r_iconst h dX12_isCouple_20 ?_
    refine r_isub h dX12_isCouple_21 ?_
    obtain ⟨r5, s5, hq5, hf⟩ := ob_some hf
    refine r_callS2 h [.int (vI a2), .int (vI 0), .int (vI (iw (r4 - 1)))] dX12_isCouple_22 (fun hs => m_Mo_isIn hw ra2 (rIc rfl) (rI_iw _) hs hq5) ml_X12_400 cv_Mo_isIn rfl ⟨rfl, rfl⟩ ⟨Nat.le_of_ble_eq_true rfl, Nat.le_of_ble_eq_true rfl⟩ ⟨Nat.le_of_ble_eq_true rfl, Nat.le_of_ble_eq_true rfl⟩ (Nat.le_of_ble_eq_true rfl) rfl (fun hr5 hs5 => ?_)
    refine r_if_eq (tgt := 56) h dX12_isCouple_25 (by decide) (rI_b hr5) (fun hc6 => ?_) (fun hc6 => ?_)
    · have hf := ite_t hc6 hf
      refine r_iconst h dX12_isCouple_56 ?_
      exact r_ret2 hr dX12_isCouple_57 (Or.inl rfl) hf
    · have hf := ite_f hc6 hf
      refine r_iload_n h dX12_isCouple_28 rfl 1 rfl ?_
      refine r_iload_n h dX12_isCouple_29 rfl 2 rfl ?_
      refine r_icmp_eq (tgt := 56) h dX12_isCouple_30 (by decide) ra1 ra2 (fun hc7 => ?_) (fun hc7 => ?_)
      · have hf := ite_t hc7 hf
        refine r_iconst h dX12_isCouple_56 ?_
        exact r_ret2 hr dX12_isCouple_57 (Or.inl rfl) hf
      · have hf := ite_f hc7 hf
        refine r_iload_n h dX12_isCouple_33 rfl 3 rfl ?_
        refine r_iconst h dX12_isCouple_34 ?_
        refine r_aload_n h dX12_isCouple_35 rfl 0 rfl ?_
        have hq8 := w_ref hw ht rC_86 (by decide) (k := 14) (by decide) rf_12_14
        refine g_X12_30 h dX12_isCouple_36 ht rC_86 hq8.1 ?_
        refine r_aload_n h dX12_isCouple_39 rfl 0 rfl ?_
        refine g_X12_295 h dX12_isCouple_40 ht rC_86 ?_
        obtain ⟨hi9, hf⟩ := oc_some hf
        refine r_iald h dX12_isCouple_43 hq8.2 rC_92 (hs5.1 _ _) (N := 2) (by rw [rN_92]; rfl) (j := (gi s5 86 40).toNat) rfl hi9 ?_
        refine r_iconst h dX12_isCouple_44 ?_
        refine r_isub h dX12_isCouple_45 ?_
        obtain ⟨r10, s10, hq10, hf⟩ := ob_some hf
        refine r_callS2 h [.int (vI a3), .int (vI 0), .int (vI (iw ((gi s5 92 ((gi s5 86 40).toNat)) - 1)))] dX12_isCouple_46 (fun hs => m_Mo_isIn hw ra3 (rIc rfl) (rI_iw _) hs hq10) ml_X12_400 cv_Mo_isIn rfl ⟨rfl, rfl⟩ ⟨Nat.le_of_ble_eq_true rfl, Nat.le_of_ble_eq_true rfl⟩ ⟨Nat.le_of_ble_eq_true rfl, Nat.le_of_ble_eq_true rfl⟩ (Nat.le_of_ble_eq_true rfl) rfl (fun hr10 hs10 => ?_)
        refine r_if_eq (tgt := 56) h dX12_isCouple_49 (by decide) (rI_b hr10) (fun hc11 => ?_) (fun hc11 => ?_)
        · have hf := ite_t hc11 hf
          refine r_iconst h dX12_isCouple_56 ?_
          exact r_ret2 hr dX12_isCouple_57 (Or.inl rfl) hf
        · have hf := ite_f hc11 hf
          refine r_iconst h dX12_isCouple_52 ?_
          refine r_goto (tgt := 57) h dX12_isCouple_53 (by decide) ?_
          exact r_ret2 hr dX12_isCouple_57 (Or.inr rfl) hf
set_option maxRecDepth 20000 in
theorem m_Mo_temperOf {l : Launch} {D : va_G} {cs : Nat → ClassId} {aS aV : Nat} {A : Nat → Prop} {ad : Nat → Nat} {n : Nat} {nl : Nat → Nat → Bool} {out : Int × SS} (hw : w_WH n nl) (ht : 86 < n) {a1 : Int} (ra1 : rI a1) {a2 : Int} (ra2 : rI a2) {s0 : SS} (hs0 : rS s0) (hf : f_Mo_temperOf a1 a2 s0 = some out) : w_MC l D cs aS aV A yX12_temperOf cX12_temperOf 3 1 rm_Mo_temperOf ad n nl [.ref (ad 86), .int (vI a1), .int (vI a2)] s0 (w_Po ad n nl out) := by
  refine w_MC_of (by decide +kernel) (by decide) hs0 (Nat.le_of_ble_eq_true rfl) (fun K h hr => ?_)
  refine r_lv (lv' := [(0, .ref (ad 86)), (1, .int (vI a1)), (2, .int (vI a2))]) rfl ?_
  unfold f_Mo_temperOf at hf
  refine r_rS h (fun hs0 => ?_)
  refine r_aload_n h dX12_temperOf_0 rfl 0 rfl ?_
  refine g_X12_407 h dX12_temperOf_1 ht rC_86 ?_
  refine r_if_eq (tgt := 43) h dX12_temperOf_4 (by decide) (hs0.1 _ _) (fun hc1 => ?_) (fun hc1 => ?_)
  · have hf := ite_t hc1 hf
    refine r_aload_n h dX12_temperOf_43 rfl 0 rfl ?_
    have hq2 := w_ref hw ht rC_86 (by decide) (k := 52) (by decide) rf_12_52
    refine g_X12_110 h dX12_temperOf_44 ht rC_86 hq2.1 ?_
    refine r_iconst h dX12_temperOf_47 ?_
    refine r_iconst h dX12_temperOf_48 ?_
    refine r_iload_n h dX12_temperOf_49 rfl 1 rfl ?_
    refine r_imul h dX12_temperOf_50 ?_
    refine r_iadd h dX12_temperOf_51 ?_
    refine r_iload_n h dX12_temperOf_52 rfl 2 rfl ?_
    refine r_iadd h dX12_temperOf_53 ?_
    obtain ⟨hi3, hf⟩ := oc_some hf
    refine r_iald h dX12_temperOf_54 hq2.2 rC_118 (rI_iw _) (N := 44) (by rw [rN_118]; rfl) (j := (iw ((iw (1 + (iw (2 * a1)))) + a2)).toNat) rfl hi3 ?_
    exact r_ret1 hr dX12_temperOf_55 (hs0.1 _ _) hf
  · have hf := ite_f hc1 hf
    refine r_iload_n h dX12_temperOf_7 rfl 2 rfl ?_
    refine r_if_ne (tgt := 28) h dX12_temperOf_8 (by decide) ra2 (fun hc4 => ?_) (fun hc4 => ?_)
    · have hf := ite_f hc4 hf
      refine r_aload_n h dX12_temperOf_28 rfl 0 rfl ?_
      have hq5 := w_ref hw ht rC_86 (by decide) (k := 24) (by decide) rf_12_24
      refine g_X12_60 h dX12_temperOf_29 ht rC_86 hq5.1 ?_
      refine r_bipush h dX12_temperOf_32 (by decide) ?_
      refine r_aload_n h dX12_temperOf_34 rfl 0 rfl ?_
      refine g_X12_295 h dX12_temperOf_35 ht rC_86 ?_
      refine r_imul h dX12_temperOf_38 ?_
      refine r_iload_n h dX12_temperOf_39 rfl 1 rfl ?_
      refine r_iadd h dX12_temperOf_40 ?_
      obtain ⟨hi6, hf⟩ := oc_some hf
      refine r_iald h dX12_temperOf_41 hq5.2 rC_102 (rI_iw _) (N := 12) (by rw [rN_102]; rfl) (j := (iw ((iw (6 * (gi s0 86 40))) + a1)).toNat) rfl hi6 ?_
      exact r_ret1 hr dX12_temperOf_42 (hs0.1 _ _) hf
    · have hf := ite_nf hc4 hf
      refine r_aload_n h dX12_temperOf_11 rfl 0 rfl ?_
      have hq7 := w_ref hw ht rC_86 (by decide) (k := 23) (by decide) rf_12_23
      refine g_X12_57 h dX12_temperOf_12 ht rC_86 hq7.1 ?_
      refine r_bipush h dX12_temperOf_15 (by decide) ?_
      refine r_aload_n h dX12_temperOf_17 rfl 0 rfl ?_
      refine g_X12_295 h dX12_temperOf_18 ht rC_86 ?_
      refine r_imul h dX12_temperOf_21 ?_
      refine r_iload_n h dX12_temperOf_22 rfl 1 rfl ?_
      refine r_iadd h dX12_temperOf_23 ?_
      obtain ⟨hi8, hf⟩ := oc_some hf
      refine r_iald h dX12_temperOf_24 hq7.2 rC_101 (rI_iw _) (N := 12) (by rw [rN_101]; rfl) (j := (iw ((iw (6 * (gi s0 86 40))) + a1)).toNat) rfl hi8 ?_
      refine r_goto (tgt := 42) h dX12_temperOf_25 (by decide) ?_
      exact r_ret1 hr dX12_temperOf_42 (hs0.1 _ _) hf
set_option maxRecDepth 20000 in
theorem b_Mo_begin_58 {l : Launch} {D : va_G} {cs : Nat → ClassId} {aS aV : Nat} {A : Nat → Prop} {K : KT} {ad : Nat → Nat} {n : Nat} {nl : Nat → Nat → Bool} {out : Int × SS} (h : w_Cl l rm_Mo_begin D cs aS aV A cX12_begin 7 RX12 "begin" K) (hr : w_Rt 0 cX12_begin 0 0 (w_Po ad n nl out) K) (hw : w_WH n nl) (ht : 86 < n) {u1 : Nat} (pu1 : u1 < n) (pc1 : rC u1 = 14) {y5 : Int} (ry5 : rI y5) : ∀ (fu : Nat) (x6 : Int) (s0 : SS), rI x6 → l_Mo_begin_58 u1 y5 fu x6 s0 = some out → K ad n nl 0 0 58 [(0, .ref (ad 86)), (1, .ref (ad u1)), (5, .int (vI y5)), (6, .int (vI x6))] [] s0 := by
  intro fu
  induction fu with
  | zero =>
    intro x6 s0 rx6 hf
    rw [l_Mo_begin_58] at hf
    cases hf
  | succ fu ih =>
    intro x6 s0 rx6 hf
    rw [l_Mo_begin_58] at hf
    refine r_rS h (fun hs0 => ?_)
    refine r_iload h dX12_begin_58 3 rfl ?_
    refine r_aload_n h dX12_begin_60 rfl 0 rfl ?_
    have hq1 := w_ref hw ht rC_86 (by decide) (k := 26) (by decide) rf_12_26
    refine g_X12_66 h dX12_begin_61 ht rC_86 hq1.1 ?_
    refine r_iload h dX12_begin_64 2 rfl ?_
    obtain ⟨hi2, hf⟩ := oc_some hf
    refine r_iald h dX12_begin_66 hq1.2 rC_104 ry5 (N := 12) (by rw [rN_104]; rfl) (j := (y5).toNat) rfl hi2 ?_
    refine r_icmp_ge (tgt := 96) h dX12_begin_67 (by decide) rx6 (hs0.1 _ _) (fun hc3 => ?_) (fun hc3 => ?_)
    · have hf := ite_t hc3 hf
      exact r_ret0 (x := 0) hr dX12_begin_96 hf
    · have hf := ite_f hc3 hf
      refine r_aload_n h dX12_begin_70 rfl 1 rfl ?_
      refine r_bipush h dX12_begin_71 (by decide) ?_
      refine r_iload h dX12_begin_73 3 rfl ?_
      refine r_iadd h dX12_begin_75 ?_
      refine r_aload_n h dX12_begin_76 rfl 0 rfl ?_
      have hq4 := w_ref hw ht rC_86 (by decide) (k := 27) (by decide) rf_12_27
      refine g_X12_69 h dX12_begin_77 ht rC_86 hq4.1 ?_
      refine r_bipush h dX12_begin_80 (by decide) ?_
      refine r_iload h dX12_begin_82 2 rfl ?_
      refine r_imul h dX12_begin_84 ?_
      refine r_iload h dX12_begin_85 3 rfl ?_
      refine r_iadd h dX12_begin_87 ?_
      obtain ⟨hi5, hf⟩ := oc_some hf
      refine r_iald h dX12_begin_88 hq4.2 rC_105 (rI_iw _) (N := 96) (by rw [rN_105]; rfl) (j := (iw ((iw (8 * y5)) + x6)).toNat) rfl hi5 ?_
      obtain ⟨hi6, hf⟩ := oc_some hf
      refine r_iast h dX12_begin_89 pu1 pc1 (rI_iw _) rfl (j := (iw (22 + x6)).toNat) rfl hi6 (hs0.1 _ _) ?_
      refine r_os hf (fun s7 hf => ?_)
      refine r_rS h (fun hs7 => ?_)
      refine r_iinc h [(6, .int (vI (iw (x6 + 1)))), (0, .ref (ad 86)), (1, .ref (ad u1)), (5, .int (vI y5))] dX12_begin_90 3 rfl (by decide) rfl ?_
      refine r_goto (tgt := 58) h dX12_begin_93 (by decide) ?_
      refine r_sub h [1, 2, 3, 0] rfl ?_
      exact ih (iw (x6 + 1)) s7 (rI_iw _) hf
set_option maxRecDepth 20000 in
theorem m_Mo_begin {l : Launch} {D : va_G} {cs : Nat → ClassId} {aS aV : Nat} {A : Nat → Prop} {ad : Nat → Nat} {n : Nat} {nl : Nat → Nat → Bool} {out : Int × SS} (hw : w_WH n nl) (ht : 86 < n) {u1 : Nat} (pu1 : u1 < n) (pc1 : rC u1 = 14) {a2 : Int} (ra2 : rI a2) {a3 : Int} (ra3 : rI a3) {a4 : Int} (ra4 : rI a4) {s0 : SS} (hs0 : rS s0) (hf : f_Mo_begin u1 a2 a3 a4 s0 = some out) : w_MC l D cs aS aV A yX12_begin cX12_begin 7 0 rm_Mo_begin ad n nl [.ref (ad 86), .ref (ad u1), .int (vI a2), .int (vI a3), .int (vI a4)] s0 (w_Po ad n nl out) := by
  refine w_MC_of (by decide +kernel) (by decide) hs0 (Nat.le_of_ble_eq_true rfl) (fun K h hr => ?_)
  refine r_lv (lv' := [(0, .ref (ad 86)), (1, .ref (ad u1)), (2, .int (vI a2)), (3, .int (vI a3)), (4, .int (vI a4))]) rfl ?_
  unfold f_Mo_begin at hf
  refine r_rS h (fun hs0 => ?_)
  refine r_bipush h dX12_begin_0 (by decide) ?_
  refine r_aload_n h dX12_begin_2 rfl 0 rfl ?_
  refine g_X12_295 h dX12_begin_3 ht rC_86 ?_
  refine r_imul h dX12_begin_6 ?_
  refine r_iload h dX12_begin_7 4 rfl ?_
  refine r_iadd h dX12_begin_9 ?_
  refine r_ol hf (rI_iw _) (fun x1_ rx1_ hf => ?_)
  refine r_istore h [(5, .int (vI x1_)), (0, .ref (ad 86)), (1, .ref (ad u1)), (2, .int (vI a2)), (3, .int (vI a3)), (4, .int (vI a4))] dX12_begin_10 (by decide) rfl ?_
  refine r_aload_n h dX12_begin_12 rfl 2 rfl ?_
  refine r_bipush h dX12_begin_13 (by decide) ?_
  refine r_iload_n h dX12_begin_15 rfl 3 rfl ?_
  obtain ⟨hi2, hf⟩ := oc_some hf
  refine r_iast h dX12_begin_16 pu1 pc1 (rIc rfl) rfl (j := 13) rfl hi2 ra2 ?_
  refine r_os hf (fun s3 hf => ?_)
  refine r_rS h (fun hs3 => ?_)
  refine r_aload_n h dX12_begin_17 rfl 2 rfl ?_
  refine r_bipush h dX12_begin_18 (by decide) ?_
  refine r_iload_n h dX12_begin_20 rfl 4 rfl ?_
  obtain ⟨hi4, hf⟩ := oc_some hf
  refine r_iast h dX12_begin_21 pu1 pc1 (rIc rfl) rfl (j := 14) rfl hi4 ra3 ?_
  refine r_os hf (fun s5 hf => ?_)
  refine r_rS h (fun hs5 => ?_)
  refine r_aload_n h dX12_begin_22 rfl 2 rfl ?_
  refine r_bipush h dX12_begin_23 (by decide) ?_
  refine r_iload h dX12_begin_25 5 rfl ?_
  obtain ⟨hi6, hf⟩ := oc_some hf
  refine r_iast h dX12_begin_27 pu1 pc1 (rIc rfl) rfl (j := 15) rfl hi6 ra4 ?_
  refine r_os hf (fun s7 hf => ?_)
  refine r_rS h (fun hs7 => ?_)
  refine r_aload_n h dX12_begin_28 rfl 2 rfl ?_
  refine r_bipush h dX12_begin_29 (by decide) ?_
  refine r_iconst h dX12_begin_31 ?_
  obtain ⟨hi8, hf⟩ := oc_some hf
  refine r_iast h dX12_begin_32 pu1 pc1 (rIc rfl) rfl (j := 19) rfl hi8 (rIc rfl) ?_
  refine r_os hf (fun s9 hf => ?_)
  refine r_rS h (fun hs9 => ?_)
  refine r_aload_n h dX12_begin_33 rfl 2 rfl ?_
  refine r_bipush h dX12_begin_34 (by decide) ?_
  refine r_aload_n h dX12_begin_36 rfl 1 rfl ?_
  have hq10 := w_ref hw ht rC_86 (by decide) (k := 25) (by decide) rf_12_25
  refine g_X12_63 h dX12_begin_37 ht rC_86 hq10.1 ?_
  refine r_iload h dX12_begin_40 0 rfl ?_
  obtain ⟨hi11, hf⟩ := oc_some hf
  refine r_iald h dX12_begin_42 hq10.2 rC_103 rx1_ (N := 12) (by rw [rN_103]; rfl) (j := (x1_).toNat) rfl hi11 ?_
  obtain ⟨hi12, hf⟩ := oc_some hf
  refine r_iast h dX12_begin_43 pu1 pc1 (rIc rfl) rfl (j := 20) rfl hi12 (hs9.1 _ _) ?_
  refine r_os hf (fun s13 hf => ?_)
  refine r_rS h (fun hs13 => ?_)
  refine r_aload_n h dX12_begin_44 rfl 2 rfl ?_
  refine r_bipush h dX12_begin_45 (by decide) ?_
  refine r_aload_n h dX12_begin_47 rfl 1 rfl ?_
  have hq14 := w_ref hw ht rC_86 (by decide) (k := 26) (by decide) rf_12_26
  refine g_X12_66 h dX12_begin_48 ht rC_86 hq14.1 ?_
  refine r_iload h dX12_begin_51 0 rfl ?_
  obtain ⟨hi15, hf⟩ := oc_some hf
  refine r_iald h dX12_begin_53 hq14.2 rC_104 rx1_ (N := 12) (by rw [rN_104]; rfl) (j := (x1_).toNat) rfl hi15 ?_
  obtain ⟨hi16, hf⟩ := oc_some hf
  refine r_iast h dX12_begin_54 pu1 pc1 (rIc rfl) rfl (j := 21) rfl hi16 (hs13.1 _ _) ?_
  refine r_os hf (fun s17 hf => ?_)
  refine r_rS h (fun hs17 => ?_)
  refine r_iconst h dX12_begin_55 ?_
  refine r_istore h [(6, .int (vI 0)), (5, .int (vI x1_)), (0, .ref (ad 86)), (1, .ref (ad u1)), (2, .int (vI a2)), (3, .int (vI a3)), (4, .int (vI a4))] dX12_begin_56 (by decide) rfl ?_
  refine r_sub h [2, 3, 1, 0] rfl ?_
  exact b_Mo_begin_58 h hr hw ht pu1 pc1 rx1_ FU 0 s17 (rIc rfl) hf
set_option maxRecDepth 20000 in
theorem m_Mo_isEnded {l : Launch} {D : va_G} {cs : Nat → ClassId} {aS aV : Nat} {A : Nat → Prop} {ad : Nat → Nat} {n : Nat} {nl : Nat → Nat → Bool} {out : Int × SS} (hw : w_WH n nl) {u1 : Nat} (pu1 : u1 < n) (pc1 : rC u1 = 14) {s0 : SS} (hs0 : rS s0) (hf : f_Mo_isEnded u1 s0 = some out) : w_MC l D cs aS aV A yX12_isEnded cX12_isEnded 1 2 rm_Mo_isEnded ad n nl [.ref (ad u1)] s0 (w_Po ad n nl out) := by
  refine w_MC_of (by decide +kernel) (by decide) hs0 (Nat.le_of_ble_eq_true rfl) (fun K h hr => ?_)
  refine r_lv (lv' := [(0, .ref (ad u1))]) rfl ?_
  unfold f_Mo_isEnded at hf
  refine r_rS h (fun hs0 => ?_)
  refine r_aload_n h dX12_isEnded_0 rfl 0 rfl ?_
  refine r_bipush h dX12_isEnded_1 (by decide) ?_
  obtain ⟨hi1, hf⟩ := oc_some hf
  refine r_iald h dX12_isEnded_3 pu1 pc1 (rIc rfl) rfl (j := 20) rfl hi1 ?_
  refine r_if_eq (tgt := 14) h dX12_isEnded_4 (by decide) (hs0.1 _ _) (fun hc2 => ?_) (fun hc2 => ?_)
  · have hf := ite_t hc2 hf
    refine r_iconst h dX12_isEnded_14 ?_
    refine r_goto (tgt := 19) h dX12_isEnded_15 (by decide) ?_
    exact r_ret2 hr dX12_isEnded_19 (Or.inr rfl) hf
  · have hf := ite_f hc2 hf
    refine r_aload_n h dX12_isEnded_7 rfl 0 rfl ?_
    refine r_bipush h dX12_isEnded_8 (by decide) ?_
    obtain ⟨hi3, hf⟩ := oc_some hf
    refine r_iald h dX12_isEnded_10 pu1 pc1 (rIc rfl) rfl (j := 21) rfl hi3 ?_
    refine r_if_ne (tgt := 18) h dX12_isEnded_11 (by decide) (hs0.1 _ _) (fun hc4 => ?_) (fun hc4 => ?_)
    · have hf := ite_f hc4 hf
      refine r_iconst h dX12_isEnded_18 ?_
      exact r_ret2 hr dX12_isEnded_19 (Or.inl rfl) hf
    · have hf := ite_nf hc4 hf
      refine r_iconst h dX12_isEnded_14 ?_
      refine r_goto (tgt := 19) h dX12_isEnded_15 (by decide) ?_
      exact r_ret2 hr dX12_isEnded_19 (Or.inr rfl) hf
set_option maxRecDepth 20000 in
theorem m_Mo_warm {l : Launch} {D : va_G} {cs : Nat → ClassId} {aS aV : Nat} {A : Nat → Prop} {ad : Nat → Nat} {n : Nat} {nl : Nat → Nat → Bool} {out : Int × SS} (hw : w_WH n nl) {a1 : Int} (ra1 : rI a1) {s0 : SS} (hs0 : rS s0) (hf : f_Mo_warm a1 s0 = some out) : w_MC l D cs aS aV A yX12_warm cX12_warm 1 1 rm_Mo_warm ad n nl [.int (vI a1)] s0 (w_Po ad n nl out) := by
  refine w_MC_of (by decide +kernel) (by decide) hs0 (Nat.le_of_ble_eq_true rfl) (fun K h hr => ?_)
  refine r_lv (lv' := [(0, .int (vI a1))]) rfl ?_
  unfold f_Mo_warm at hf
  refine r_rS h (fun hs0 => ?_)
  refine r_iload_n h dX12_warm_0 rfl 0 rfl ?_
  refine r_if_ge (tgt := 8) h dX12_warm_1 (by decide) ra1 (fun hc1 => ?_) (fun hc1 => ?_)
  · have hf := ite_t hc1 hf
    refine r_iload_n h dX12_warm_8 rfl 0 rfl ?_
    refine r_bipush h dX12_warm_9 (by decide) ?_
    refine r_icmp_le (tgt := 19) h dX12_warm_11 (by decide) ra1 (rIc rfl) (fun hc2 => ?_) (fun hc2 => ?_)
    · have hf := ite_t hc2 hf
      refine r_iload_n h dX12_warm_19 rfl 0 rfl ?_
      exact r_ret1 hr dX12_warm_20 ra1 hf
    · have hf := ite_f hc2 hf
      refine r_bipush h dX12_warm_14 (by decide) ?_
      refine r_goto (tgt := 20) h dX12_warm_16 (by decide) ?_
      exact r_ret1 hr dX12_warm_20 (rIc rfl) hf
  · have hf := ite_f hc1 hf
    refine r_iconst h dX12_warm_4 ?_
    refine r_goto (tgt := 20) h dX12_warm_5 (by decide) ?_
    exact r_ret1 hr dX12_warm_20 (rIc rfl) hf
set_option maxRecDepth 20000 in
theorem m_Mo_push {l : Launch} {D : va_G} {cs : Nat → ClassId} {aS aV : Nat} {A : Nat → Prop} {ad : Nat → Nat} {n : Nat} {nl : Nat → Nat → Bool} {out : Int × SS} (hw : w_WH n nl) {u1 : Nat} (pu1 : u1 < n) (pc1 : rC u1 = 14) {a2 : Int} (ra2 : rI a2) {s0 : SS} (hs0 : rS s0) (hf : f_Mo_push u1 a2 s0 = some out) : w_MC l D cs aS aV A yX12_push cX12_push 2 0 rm_Mo_push ad n nl [.ref (ad u1), .int (vI a2)] s0 (w_Po ad n nl out) := by
  refine w_MC_of (by decide +kernel) (by decide) hs0 (Nat.le_of_ble_eq_true rfl) (fun K h hr => ?_)
  refine r_lv (lv' := [(0, .ref (ad u1)), (1, .int (vI a2))]) rfl ?_
  unfold f_Mo_push at hf
  refine r_rS h (fun hs0 => ?_)
  refine r_aload_n h dX12_push_0 rfl 0 rfl ?_
  refine r_bipush h dX12_push_1 (by decide) ?_
  refine r_aload_n h dX12_push_3 rfl 0 rfl ?_
  refine r_bipush h dX12_push_4 (by decide) ?_
  obtain ⟨hi1, hf⟩ := oc_some hf
  refine r_iald h dX12_push_6 pu1 pc1 (rIc rfl) rfl (j := 21) rfl hi1 ?_
  refine r_iadd h dX12_push_7 ?_
  refine r_iload_n h dX12_push_8 rfl 1 rfl ?_
  obtain ⟨hi2, hf⟩ := oc_some hf
  refine r_iast h dX12_push_9 pu1 pc1 (rI_iw _) rfl (j := (iw (22 + (gi s0 u1 21))).toNat) rfl hi2 ra2 ?_
  refine r_os hf (fun s3 hf => ?_)
  refine r_rS h (fun hs3 => ?_)
  refine r_aload_n h dX12_push_10 rfl 0 rfl ?_
  refine r_bipush h dX12_push_11 (by decide) ?_
  refine r_dup2a h dX12_push_13 rfl rfl ?_
  obtain ⟨hi4, hf⟩ := oc_some hf
  refine r_iald h dX12_push_14 pu1 pc1 (rIc rfl) rfl (j := 21) rfl hi4 ?_
  refine r_iconst h dX12_push_15 ?_
  refine r_iadd h dX12_push_16 ?_
  obtain ⟨hi5, hf⟩ := oc_some hf
  refine r_iast h dX12_push_17 pu1 pc1 (rIc rfl) rfl (j := 21) rfl hi5 (rI_iw _) ?_
  refine r_os hf (fun s6 hf => ?_)
  refine r_rS h (fun hs6 => ?_)
  exact r_ret0 (x := 0) hr dX12_push_18 hf
set_option maxRecDepth 20000 in
theorem b_Mo_say_216 {l : Launch} {D : va_G} {cs : Nat → ClassId} {aS aV : Nat} {A : Nat → Prop} {K : KT} {ad : Nat → Nat} {n : Nat} {nl : Nat → Nat → Bool} {out : Int × SS} (h : w_Cl l rm_Mo_say D cs aS aV A cX12_say 7 RX12 "say" K) (hr : w_Rt 0 cX12_say 0 0 (w_Po ad n nl out) K) (hw : w_WH n nl) (ht : 86 < n) {u1 : Nat} (pu1 : u1 < n) (pc1 : rC u1 = 14) (x3 : Int) (s0 : SS) (rx3 : rI x3) (hf : j_Mo_say_216 u1 x3 s0 = some out) : K ad n nl 0 0 216 [(0, .ref (ad 86)), (1, .ref (ad u1)), (3, .int (vI x3))] [] s0 := by
  unfold j_Mo_say_216 at hf
  refine r_rS h (fun hs0 => ?_)
  refine r_iload_n h dX12_say_216 rfl 2 rfl ?_
  refine r_if_ge (tgt := 221) h dX12_say_217 (by decide) rx3 (fun hc1 => ?_) (fun hc1 => ?_)
  · have hf := ite_t hc1 hf
    refine r_aload_n h dX12_say_221 rfl 1 rfl ?_
    refine r_bipush h dX12_say_222 (by decide) ?_
    refine r_aload_n h dX12_say_224 rfl 1 rfl ?_
    refine r_bipush h dX12_say_225 (by decide) ?_
    obtain ⟨hi2, hf⟩ := oc_some hf
    refine r_iald h dX12_say_227 pu1 pc1 (rIc rfl) rfl (j := 20) rfl hi2 ?_
    refine r_aload_n h dX12_say_228 rfl 0 rfl ?_
    have hq3 := w_ref hw ht rC_86 (by decide) (k := 17) (by decide) rf_12_17
    refine g_X12_39 h dX12_say_229 ht rC_86 hq3.1 ?_
    refine r_bipush h dX12_say_232 (by decide) ?_
    refine r_aload_n h dX12_say_234 rfl 0 rfl ?_
    refine g_X12_295 h dX12_say_235 ht rC_86 ?_
    refine r_imul h dX12_say_238 ?_
    refine r_iload_n h dX12_say_239 rfl 2 rfl ?_
    refine r_iadd h dX12_say_240 ?_
    obtain ⟨hi4, hf⟩ := oc_some hf
    refine r_iald h dX12_say_241 hq3.2 rC_95 (rI_iw _) (N := 16) (by rw [rN_95]; rfl) (j := (iw ((iw (8 * (gi s0 86 40))) + x3)).toNat) rfl hi4 ?_
    refine r_isub h dX12_say_242 ?_
    obtain ⟨r5, s5, hq5, hf⟩ := ob_some hf
    refine r_callS1 h [.int (vI (iw ((gi s0 u1 20) - (gi s0 95 ((iw ((iw (8 * (gi s0 86 40))) + x3)).toNat)))))] dX12_say_243 (fun hs => m_Mo_warm hw (rI_iw _) hs hq5) ml_X12_417 cv_Mo_warm rfl ⟨rfl, rfl⟩ ⟨Nat.le_of_ble_eq_true rfl, Nat.le_of_ble_eq_true rfl⟩ ⟨Nat.le_of_ble_eq_true rfl, Nat.le_of_ble_eq_true rfl⟩ (Nat.le_of_ble_eq_true rfl) rfl (fun hr5 hs5 => ?_)
    obtain ⟨hi6, hf⟩ := oc_some hf
    refine r_iast h dX12_say_246 pu1 pc1 (rIc rfl) rfl (j := 20) rfl hi6 hr5 ?_
    refine r_os hf (fun s7 hf => ?_)
    refine r_rS h (fun hs7 => ?_)
    refine r_aload_n h dX12_say_247 rfl 0 rfl ?_
    have hq8 := w_ref hw ht rC_86 (by decide) (k := 18) (by decide) rf_12_18
    refine g_X12_42 h dX12_say_248 ht rC_86 hq8.1 ?_
    refine r_bipush h dX12_say_251 (by decide) ?_
    refine r_aload_n h dX12_say_253 rfl 0 rfl ?_
    refine g_X12_295 h dX12_say_254 ht rC_86 ?_
    refine r_imul h dX12_say_257 ?_
    refine r_iload_n h dX12_say_258 rfl 2 rfl ?_
    refine r_iadd h dX12_say_259 ?_
    obtain ⟨hi9, hf⟩ := oc_some hf
    refine r_iald h dX12_say_260 hq8.2 rC_96 (rI_iw _) (N := 16) (by rw [rN_96]; rfl) (j := (iw ((iw (8 * (gi s7 86 40))) + x3)).toNat) rfl hi9 ?_
    refine r_if_le (tgt := 291) h dX12_say_261 (by decide) (hs7.1 _ _) (fun hc10 => ?_) (fun hc10 => ?_)
    · have hf := ite_t hc10 hf
      exact r_ret0 (x := 0) hr dX12_say_291 hf
    · have hf := ite_f hc10 hf
      refine r_aload_n h dX12_say_264 rfl 1 rfl ?_
      refine r_bipush h dX12_say_265 (by decide) ?_
      obtain ⟨hi11, hf⟩ := oc_some hf
      refine r_iald h dX12_say_267 pu1 pc1 (rIc rfl) rfl (j := 21) rfl hi11 ?_
      refine r_bipush h dX12_say_268 (by decide) ?_
      refine r_icmp_ge (tgt := 291) h dX12_say_270 (by decide) (hs7.1 _ _) (rIc rfl) (fun hc12 => ?_) (fun hc12 => ?_)
      · have hf := ite_t hc12 hf
        exact r_ret0 (x := 0) hr dX12_say_291 hf
      · have hf := ite_f hc12 hf
        refine r_aload_n h dX12_say_273 rfl 1 rfl ?_
        refine r_aload_n h dX12_say_274 rfl 0 rfl ?_
        have hq13 := w_ref hw ht rC_86 (by decide) (k := 18) (by decide) rf_12_18
        refine g_X12_42 h dX12_say_275 ht rC_86 hq13.1 ?_
        refine r_bipush h dX12_say_278 (by decide) ?_
        refine r_aload_n h dX12_say_280 rfl 0 rfl ?_
        refine g_X12_295 h dX12_say_281 ht rC_86 ?_
        refine r_imul h dX12_say_284 ?_
        refine r_iload_n h dX12_say_285 rfl 2 rfl ?_
        refine r_iadd h dX12_say_286 ?_
        obtain ⟨hi14, hf⟩ := oc_some hf
        refine r_iald h dX12_say_287 hq13.2 rC_96 (rI_iw _) (N := 16) (by rw [rN_96]; rfl) (j := (iw ((iw (8 * (gi s7 86 40))) + x3)).toNat) rfl hi14 ?_
        obtain ⟨r15, s15, hq15, hf⟩ := ob_some hf
        refine r_callS0 h [.ref (ad u1), .int (vI (gi s7 96 ((iw ((iw (8 * (gi s7 86 40))) + x3)).toNat)))] dX12_say_288 (fun hs => m_Mo_push hw pu1 pc1 (hs7.1 _ _) hs hq15) ml_X12_420 cv_Mo_push rfl ⟨rfl, rfl⟩ ⟨Nat.le_of_ble_eq_true rfl, Nat.le_of_ble_eq_true rfl⟩ ⟨Nat.le_of_ble_eq_true rfl, Nat.le_of_ble_eq_true rfl⟩ (Nat.le_of_ble_eq_true rfl) rfl (fun hr15 hs15 => ?_)
        exact r_ret0 (x := 0) hr dX12_say_291 hf
  · have hf := ite_f hc1 hf
    exact r_ret0 (x := 0) hr dX12_say_220 hf
set_option maxRecDepth 20000 in
theorem b_Mo_say_186 {l : Launch} {D : va_G} {cs : Nat → ClassId} {aS aV : Nat} {A : Nat → Prop} {K : KT} {ad : Nat → Nat} {n : Nat} {nl : Nat → Nat → Bool} {out : Int × SS} (h : w_Cl l rm_Mo_say D cs aS aV A cX12_say 7 RX12 "say" K) (hr : w_Rt 0 cX12_say 0 0 (w_Po ad n nl out) K) (hw : w_WH n nl) (ht : 86 < n) {u1 : Nat} (pu1 : u1 < n) (pc1 : rC u1 = 14) (x2 : Int) (x3 : Int) (s0 : SS) (rx2 : rI x2) (rx3 : rI x3) (hf : j_Mo_say_186 u1 x2 x3 s0 = some out) : K ad n nl 0 0 186 [(0, .ref (ad 86)), (1, .ref (ad u1)), (2, .int (vI x2)), (3, .int (vI x3))] [] s0 := by
  unfold j_Mo_say_186 at hf
  refine r_rS h (fun hs0 => ?_)
  refine r_iload_n h dX12_say_186 rfl 2 rfl ?_
  refine r_if_lt (tgt := 216) h dX12_say_187 (by decide) rx2 (fun hc1 => ?_) (fun hc1 => ?_)
  · have hf := ite_t hc1 hf
    refine r_sub h [0, 1, 3] rfl ?_
    exact b_Mo_say_216 h hr hw ht pu1 pc1 x3 s0 rx3 hf
  · have hf := ite_f hc1 hf
    refine r_aload_n h dX12_say_190 rfl 1 rfl ?_
    refine r_bipush h dX12_say_191 (by decide) ?_
    refine r_aload_n h dX12_say_193 rfl 1 rfl ?_
    refine r_bipush h dX12_say_194 (by decide) ?_
    obtain ⟨hi2, hf⟩ := oc_some hf
    refine r_iald h dX12_say_196 pu1 pc1 (rIc rfl) rfl (j := 20) rfl hi2 ?_
    refine r_aload_n h dX12_say_197 rfl 0 rfl ?_
    have hq3 := w_ref hw ht rC_86 (by decide) (k := 22) (by decide) rf_12_22
    refine g_X12_54 h dX12_say_198 ht rC_86 hq3.1 ?_
    refine r_bipush h dX12_say_201 (by decide) ?_
    refine r_aload_n h dX12_say_203 rfl 0 rfl ?_
    refine g_X12_295 h dX12_say_204 ht rC_86 ?_
    refine r_imul h dX12_say_207 ?_
    refine r_iload_n h dX12_say_208 rfl 2 rfl ?_
    refine r_iadd h dX12_say_209 ?_
    obtain ⟨hi4, hf⟩ := oc_some hf
    refine r_iald h dX12_say_210 hq3.2 rC_100 (rI_iw _) (N := 28) (by rw [rN_100]; rfl) (j := (iw ((iw (14 * (gi s0 86 40))) + x2)).toNat) rfl hi4 ?_
    refine r_iadd h dX12_say_211 ?_
    obtain ⟨r5, s5, hq5, hf⟩ := ob_some hf
    refine r_callS1 h [.int (vI (iw ((gi s0 u1 20) + (gi s0 100 ((iw ((iw (14 * (gi s0 86 40))) + x2)).toNat)))))] dX12_say_212 (fun hs => m_Mo_warm hw (rI_iw _) hs hq5) ml_X12_417 cv_Mo_warm rfl ⟨rfl, rfl⟩ ⟨Nat.le_of_ble_eq_true rfl, Nat.le_of_ble_eq_true rfl⟩ ⟨Nat.le_of_ble_eq_true rfl, Nat.le_of_ble_eq_true rfl⟩ (Nat.le_of_ble_eq_true rfl) rfl (fun hr5 hs5 => ?_)
    obtain ⟨hi6, hf⟩ := oc_some hf
    refine r_iast h dX12_say_215 pu1 pc1 (rIc rfl) rfl (j := 20) rfl hi6 hr5 ?_
    refine r_os hf (fun s7 hf => ?_)
    refine r_rS h (fun hs7 => ?_)
    refine r_sub h [0, 1, 3] rfl ?_
    exact b_Mo_say_216 h hr hw ht pu1 pc1 x3 s7 rx3 hf
set_option maxRecDepth 20000 in
theorem b_Mo_say_183 {l : Launch} {D : va_G} {cs : Nat → ClassId} {aS aV : Nat} {A : Nat → Prop} {K : KT} {ad : Nat → Nat} {n : Nat} {nl : Nat → Nat → Bool} {out : Int × SS} (h : w_Cl l rm_Mo_say D cs aS aV A cX12_say 7 RX12 "say" K) (hr : w_Rt 0 cX12_say 0 0 (w_Po ad n nl out) K) (hw : w_WH n nl) (ht : 86 < n) {u1 : Nat} (pu1 : u1 < n) (pc1 : rC u1 = 14) (x2 : Int) (x3 : Int) (z1 : Int) (s0 : SS) (rx2 : rI x2) (rx3 : rI x3) (rz1 : rI z1) (hf : j_Mo_say_183 u1 x2 x3 z1 s0 = some out) : K ad n nl 0 0 183 [(0, .ref (ad 86)), (1, .ref (ad u1)), (2, .int (vI x2)), (3, .int (vI x3))] [.int (vI z1), .ref (ad u1)] s0 := by
  unfold j_Mo_say_183 at hf
  refine r_rS h (fun hs0 => ?_)
  obtain ⟨r1, s1, hq1, hf⟩ := ob_some hf
  refine r_callS0 h [.ref (ad u1), .int (vI z1)] dX12_say_183 (fun hs => m_Mo_push hw pu1 pc1 rz1 hs hq1) ml_X12_420 cv_Mo_push rfl ⟨rfl, rfl⟩ ⟨Nat.le_of_ble_eq_true rfl, Nat.le_of_ble_eq_true rfl⟩ ⟨Nat.le_of_ble_eq_true rfl, Nat.le_of_ble_eq_true rfl⟩ (Nat.le_of_ble_eq_true rfl) rfl (fun hr1 hs1 => ?_)
  exact b_Mo_say_186 h hr hw ht pu1 pc1 x2 x3 s1 rx2 rx3 hf
set_option maxRecDepth 20000 in
theorem b_Mo_say_152 {l : Launch} {D : va_G} {cs : Nat → ClassId} {aS aV : Nat} {A : Nat → Prop} {K : KT} {ad : Nat → Nat} {n : Nat} {nl : Nat → Nat → Bool} {out : Int × SS} (h : w_Cl l rm_Mo_say D cs aS aV A cX12_say 7 RX12 "say" K) (hr : w_Rt 0 cX12_say 0 0 (w_Po ad n nl out) K) (hw : w_WH n nl) (ht : 86 < n) {u1 : Nat} (pu1 : u1 < n) (pc1 : rC u1 = 14) (x2 : Int) (x3 : Int) (x5 : Int) (z0 : Int) (s0 : SS) (rx2 : rI x2) (rx3 : rI x3) (rx5 : rI x5) (rz0 : rI z0) (hf : j_Mo_say_152 u1 x2 x3 x5 z0 s0 = some out) : K ad n nl 0 0 152 [(0, .ref (ad 86)), (1, .ref (ad u1)), (2, .int (vI x2)), (3, .int (vI x3)), (5, .int (vI x5))] [.int (vI z0)] s0 := by
  unfold j_Mo_say_152 at hf
  refine r_rS h (fun hs0 => ?_)
  refine r_istore h [(6, .int (vI z0)), (0, .ref (ad 86)), (1, .ref (ad u1)), (2, .int (vI x2)), (3, .int (vI x3)), (5, .int (vI x5))] dX12_say_152 (by decide) rfl ?_
  refine r_aload_n h dX12_say_154 rfl 2 rfl ?_
  refine r_bipush h dX12_say_155 (by decide) ?_
  refine r_iload h dX12_say_157 5 rfl ?_
  obtain ⟨r1, s1, hq1, hf⟩ := ob_some hf
  refine r_callS1 h [.int (vI x5)] dX12_say_159 (fun hs => m_Mo_warm hw rx5 hs hq1) ml_X12_417 cv_Mo_warm rfl ⟨rfl, rfl⟩ ⟨Nat.le_of_ble_eq_true rfl, Nat.le_of_ble_eq_true rfl⟩ ⟨Nat.le_of_ble_eq_true rfl, Nat.le_of_ble_eq_true rfl⟩ (Nat.le_of_ble_eq_true rfl) rfl (fun hr1 hs1 => ?_)
  obtain ⟨hi2, hf⟩ := oc_some hf
  refine r_iast h dX12_say_162 pu1 pc1 (rIc rfl) rfl (j := 20) rfl hi2 hr1 ?_
  refine r_os hf (fun s3 hf => ?_)
  refine r_rS h (fun hs3 => ?_)
  refine r_iload h dX12_say_163 0 rfl ?_
  refine r_if_le (tgt := 186) h dX12_say_165 (by decide) rz0 (fun hc4 => ?_) (fun hc4 => ?_)
  · have hf := ite_t hc4 hf
    refine r_sub h [1, 2, 3, 4] rfl ?_
    exact b_Mo_say_186 h hr hw ht pu1 pc1 x2 x3 s3 rx2 rx3 hf
  · have hf := ite_f hc4 hf
    refine r_aload_n h dX12_say_168 rfl 2 rfl ?_
    refine r_iload h dX12_say_169 0 rfl ?_
    refine r_bipush h dX12_say_171 (by decide) ?_
    refine r_icmp_le (tgt := 181) h dX12_say_173 (by decide) rz0 (rIc rfl) (fun hc5 => ?_) (fun hc5 => ?_)
    · have hf := ite_t hc5 hf
      refine r_iload h dX12_say_181 0 rfl ?_
      refine r_sub h [1, 2, 3, 4] rfl ?_
      exact b_Mo_say_183 h hr hw ht pu1 pc1 x2 x3 z0 s3 rx2 rx3 rz0 hf
    · have hf := ite_f hc5 hf
      refine r_bipush h dX12_say_176 (by decide) ?_
      refine r_goto (tgt := 183) h dX12_say_178 (by decide) ?_
      refine r_sub h [1, 2, 3, 4] rfl ?_
      exact b_Mo_say_183 h hr hw ht pu1 pc1 x2 x3 9 s3 rx2 rx3 (rIc rfl) hf
set_option maxRecDepth 20000 in
theorem b_Mo_say_125 {l : Launch} {D : va_G} {cs : Nat → ClassId} {aS aV : Nat} {A : Nat → Prop} {K : KT} {ad : Nat → Nat} {n : Nat} {nl : Nat → Nat → Bool} {out : Int × SS} (h : w_Cl l rm_Mo_say D cs aS aV A cX12_say 7 RX12 "say" K) (hr : w_Rt 0 cX12_say 0 0 (w_Po ad n nl out) K) (hw : w_WH n nl) (ht : 86 < n) {u1 : Nat} (pu1 : u1 < n) (pc1 : rC u1 = 14) (x2 : Int) (x3 : Int) (z0 : Int) (s0 : SS) (rx2 : rI x2) (rx3 : rI x3) (rz0 : rI z0) (hf : j_Mo_say_125 u1 x2 x3 z0 s0 = some out) : K ad n nl 0 0 125 [(0, .ref (ad 86)), (1, .ref (ad u1)), (2, .int (vI x2)), (3, .int (vI x3))] [.int (vI z0)] s0 := by
  unfold j_Mo_say_125 at hf
  refine r_rS h (fun hs0 => ?_)
  refine r_istore h [(5, .int (vI z0)), (0, .ref (ad 86)), (1, .ref (ad u1)), (2, .int (vI x2)), (3, .int (vI x3))] dX12_say_125 (by decide) rfl ?_
  refine r_aload_n h dX12_say_127 rfl 1 rfl ?_
  have hq1 := w_ref hw ht rC_86 (by decide) (k := 31) (by decide) rf_12_31
  refine g_X12_82 h dX12_say_128 ht rC_86 hq1.1 ?_
  refine r_iconst h dX12_say_131 ?_
  refine r_aload_n h dX12_say_132 rfl 1 rfl ?_
  refine g_X12_295 h dX12_say_133 ht rC_86 ?_
  refine r_imul h dX12_say_136 ?_
  refine r_iconst h dX12_say_137 ?_
  refine r_iadd h dX12_say_138 ?_
  obtain ⟨hi2, hf⟩ := oc_some hf
  refine r_zald h dX12_say_139 hq1.2 rC_109 (rI_iw _) (N := 4) (by rw [rN_109]; rfl) (j := (iw ((iw (2 * (gi s0 86 40))) + 1)).toNat) rfl hi2 ?_
  refine r_if_eq (tgt := 151) h dX12_say_140 (by decide) (hs0.1 _ _) (fun hc3 => ?_) (fun hc3 => ?_)
  · have hf := ite_t hc3 hf
    refine r_iconst h dX12_say_151 ?_
    refine r_sub h [1, 2, 3, 4, 0] rfl ?_
    exact b_Mo_say_152 h hr hw ht pu1 pc1 x2 x3 z0 0 s0 rx2 rx3 rz0 (rIc rfl) hf
  · have hf := ite_f hc3 hf
    refine r_aload_n h dX12_say_143 rfl 1 rfl ?_
    refine r_iconst h dX12_say_144 ?_
    obtain ⟨r4, s4, hq4, hf⟩ := ob_some hf
    refine r_callV1 h [.int (vI 1)] dX12_say_145 (fun hs => m_Mo_comes hw ht (rIc rfl) hs hq4) ml_X12_414 cv_Mo_comes rfl (co := 12) rfl (by decide) ht rC_86 ⟨rfl, rfl⟩ ⟨Nat.le_of_ble_eq_true rfl, Nat.le_of_ble_eq_true rfl⟩ ⟨Nat.le_of_ble_eq_true rfl, Nat.le_of_ble_eq_true rfl⟩ (Nat.le_of_ble_eq_true rfl) rfl (fun hr4 hs4 => ?_)
    refine r_goto (tgt := 152) h dX12_say_148 (by decide) ?_
    refine r_sub h [1, 2, 3, 4, 0] rfl ?_
    exact b_Mo_say_152 h hr hw ht pu1 pc1 x2 x3 z0 r4 s4 rx2 rx3 rz0 hr4 hf
set_option maxRecDepth 20000 in
theorem b_Mo_say_20 {l : Launch} {D : va_G} {cs : Nat → ClassId} {aS aV : Nat} {A : Nat → Prop} {K : KT} {ad : Nat → Nat} {n : Nat} {nl : Nat → Nat → Bool} {out : Int × SS} (h : w_Cl l rm_Mo_say D cs aS aV A cX12_say 7 RX12 "say" K) (hr : w_Rt 0 cX12_say 0 0 (w_Po ad n nl out) K) (hw : w_WH n nl) (ht : 86 < n) {u1 : Nat} (pu1 : u1 < n) (pc1 : rC u1 = 14) (x2 : Int) (x3 : Int) (z0 : Int) (s0 : SS) (rx2 : rI x2) (rx3 : rI x3) (rz0 : rI z0) (hf : j_Mo_say_20 u1 x2 x3 z0 s0 = some out) : K ad n nl 0 0 20 [(0, .ref (ad 86)), (1, .ref (ad u1)), (2, .int (vI x2)), (3, .int (vI x3))] [.int (vI z0)] s0 := by
  unfold j_Mo_say_20 at hf
  refine r_rS h (fun hs0 => ?_)
  refine r_istore h [(4, .int (vI z0)), (0, .ref (ad 86)), (1, .ref (ad u1)), (2, .int (vI x2)), (3, .int (vI x3))] dX12_say_20 (by decide) rfl ?_
  refine r_aload_n h dX12_say_22 rfl 2 rfl ?_
  refine r_bipush h dX12_say_23 (by decide) ?_
  refine r_dup2a h dX12_say_25 rfl rfl ?_
  obtain ⟨hi1, hf⟩ := oc_some hf
  refine r_iald h dX12_say_26 pu1 pc1 (rIc rfl) rfl (j := 19) rfl hi1 ?_
  refine r_iconst h dX12_say_27 ?_
  refine r_iadd h dX12_say_28 ?_
  obtain ⟨hi2, hf⟩ := oc_some hf
  refine r_iast h dX12_say_29 pu1 pc1 (rIc rfl) rfl (j := 19) rfl hi2 (rI_iw _) ?_
  refine r_os hf (fun s3 hf => ?_)
  refine r_rS h (fun hs3 => ?_)
  refine r_aload_n h dX12_say_30 rfl 2 rfl ?_
  refine r_bipush h dX12_say_31 (by decide) ?_
  refine r_dup2a h dX12_say_33 rfl rfl ?_
  obtain ⟨hi4, hf⟩ := oc_some hf
  refine r_iald h dX12_say_34 pu1 pc1 (rIc rfl) rfl (j := 21) rfl hi4 ?_
  refine r_iconst h dX12_say_35 ?_
  refine r_isub h dX12_say_36 ?_
  obtain ⟨hi5, hf⟩ := oc_some hf
  refine r_iast h dX12_say_37 pu1 pc1 (rIc rfl) rfl (j := 21) rfl hi5 (rI_iw _) ?_
  refine r_os hf (fun s6 hf => ?_)
  refine r_rS h (fun hs6 => ?_)
  refine r_aload_n h dX12_say_38 rfl 1 rfl ?_
  refine r_aload_n h dX12_say_39 rfl 2 rfl ?_
  refine r_bipush h dX12_say_40 (by decide) ?_
  obtain ⟨hi7, hf⟩ := oc_some hf
  refine r_iald h dX12_say_42 pu1 pc1 (rIc rfl) rfl (j := 20) rfl hi7 ?_
  refine p_X12_375 h dX12_say_43 ht rC_86 (hs6.1 _ _) ?_
  refine r_os hf (fun s8 hf => ?_)
  refine r_rS h (fun hs8 => ?_)
  refine r_aload_n h dX12_say_46 rfl 1 rfl ?_
  refine r_aload_n h dX12_say_47 rfl 2 rfl ?_
  refine r_bipush h dX12_say_48 (by decide) ?_
  refine r_aload_n h dX12_say_50 rfl 2 rfl ?_
  refine r_bipush h dX12_say_51 (by decide) ?_
  obtain ⟨hi9, hf⟩ := oc_some hf
  refine r_iald h dX12_say_53 pu1 pc1 (rIc rfl) rfl (j := 21) rfl hi9 ?_
  refine r_iadd h dX12_say_54 ?_
  obtain ⟨hi10, hf⟩ := oc_some hf
  refine r_iald h dX12_say_55 pu1 pc1 (rI_iw _) rfl (j := (iw (22 + (gi s8 u1 21))).toNat) rfl hi10 ?_
  refine p_X12_378 h dX12_say_56 ht rC_86 (hs8.1 _ _) ?_
  refine r_os hf (fun s11 hf => ?_)
  refine r_rS h (fun hs11 => ?_)
  refine r_aload_n h dX12_say_59 rfl 1 rfl ?_
  refine r_aload_n h dX12_say_60 rfl 1 rfl ?_
  refine r_iload h dX12_say_61 0 rfl ?_
  refine r_iconst h dX12_say_63 ?_
  obtain ⟨r12, s12, hq12, hf⟩ := ob_some hf
  refine r_callV1 h [.int (vI z0), .int (vI 0)] dX12_say_64 (fun hs => m_Mo_temperOf hw ht rz0 (rIc rfl) hs hq12) ml_X12_411 cv_Mo_temperOf rfl (co := 12) rfl (by decide) ht rC_86 ⟨rfl, rfl⟩ ⟨Nat.le_of_ble_eq_true rfl, Nat.le_of_ble_eq_true rfl⟩ ⟨Nat.le_of_ble_eq_true rfl, Nat.le_of_ble_eq_true rfl⟩ (Nat.le_of_ble_eq_true rfl) rfl (fun hr12 hs12 => ?_)
  refine p_X12_381 h dX12_say_67 ht rC_86 hr12 ?_
  refine r_os hf (fun s13 hf => ?_)
  refine r_rS h (fun hs13 => ?_)
  refine r_aload_n h dX12_say_70 rfl 1 rfl ?_
  refine r_aload_n h dX12_say_71 rfl 1 rfl ?_
  refine r_iload h dX12_say_72 0 rfl ?_
  refine r_iconst h dX12_say_74 ?_
  obtain ⟨r14, s14, hq14, hf⟩ := ob_some hf
  refine r_callV1 h [.int (vI z0), .int (vI 1)] dX12_say_75 (fun hs => m_Mo_temperOf hw ht rz0 (rIc rfl) hs hq14) ml_X12_411 cv_Mo_temperOf rfl (co := 12) rfl (by decide) ht rC_86 ⟨rfl, rfl⟩ ⟨Nat.le_of_ble_eq_true rfl, Nat.le_of_ble_eq_true rfl⟩ ⟨Nat.le_of_ble_eq_true rfl, Nat.le_of_ble_eq_true rfl⟩ (Nat.le_of_ble_eq_true rfl) rfl (fun hr14 hs14 => ?_)
  refine p_X12_384 h dX12_say_78 ht rC_86 hr14 ?_
  refine r_os hf (fun s15 hf => ?_)
  refine r_rS h (fun hs15 => ?_)
  refine r_aload_n h dX12_say_81 rfl 1 rfl ?_
  refine r_aload_n h dX12_say_82 rfl 2 rfl ?_
  refine r_bipush h dX12_say_83 (by decide) ?_
  obtain ⟨hi16, hf⟩ := oc_some hf
  refine r_iald h dX12_say_85 pu1 pc1 (rIc rfl) rfl (j := 19) rfl hi16 ?_
  refine p_X12_387 h dX12_say_86 ht rC_86 (hs15.1 _ _) ?_
  refine r_os hf (fun s17 hf => ?_)
  refine r_rS h (fun hs17 => ?_)
  refine r_aload_n h dX12_say_89 rfl 1 rfl ?_
  refine r_aload_n h dX12_say_90 rfl 2 rfl ?_
  refine r_bipush h dX12_say_91 (by decide) ?_
  obtain ⟨hi18, hf⟩ := oc_some hf
  refine r_iald h dX12_say_93 pu1 pc1 (rIc rfl) rfl (j := 21) rfl hi18 ?_
  refine p_X12_390 h dX12_say_94 ht rC_86 (hs17.1 _ _) ?_
  refine r_os hf (fun s19 hf => ?_)
  refine r_rS h (fun hs19 => ?_)
  refine r_aload_n h dX12_say_97 rfl 1 rfl ?_
  have hq20 := w_ref hw ht rC_86 (by decide) (k := 31) (by decide) rf_12_31
  refine g_X12_82 h dX12_say_98 ht rC_86 hq20.1 ?_
  refine r_iconst h dX12_say_101 ?_
  refine r_aload_n h dX12_say_102 rfl 1 rfl ?_
  refine g_X12_295 h dX12_say_103 ht rC_86 ?_
  refine r_imul h dX12_say_106 ?_
  obtain ⟨hi21, hf⟩ := oc_some hf
  refine r_zald h dX12_say_107 hq20.2 rC_109 (rI_iw _) (N := 4) (by rw [rN_109]; rfl) (j := (iw (2 * (gi s19 86 40))).toNat) rfl hi21 ?_
  refine r_if_eq (tgt := 119) h dX12_say_108 (by decide) (hs19.1 _ _) (fun hc22 => ?_) (fun hc22 => ?_)
  · have hf := ite_t hc22 hf
    refine r_aload_n h dX12_say_119 rfl 1 rfl ?_
    refine g_X12_375 h dX12_say_120 ht rC_86 ?_
    refine r_iconst h dX12_say_123 ?_
    refine r_isub h dX12_say_124 ?_
    refine r_sub h [1, 2, 3, 4] rfl ?_
    exact b_Mo_say_125 h hr hw ht pu1 pc1 x2 x3 (iw ((gi s19 86 46) - 1)) s19 rx2 rx3 (rI_iw _) hf
  · have hf := ite_f hc22 hf
    refine r_aload_n h dX12_say_111 rfl 1 rfl ?_
    refine r_iconst h dX12_say_112 ?_
    obtain ⟨r23, s23, hq23, hf⟩ := ob_some hf
    refine r_callV1 h [.int (vI 0)] dX12_say_113 (fun hs => m_Mo_comes hw ht (rIc rfl) hs hq23) ml_X12_414 cv_Mo_comes rfl (co := 12) rfl (by decide) ht rC_86 ⟨rfl, rfl⟩ ⟨Nat.le_of_ble_eq_true rfl, Nat.le_of_ble_eq_true rfl⟩ ⟨Nat.le_of_ble_eq_true rfl, Nat.le_of_ble_eq_true rfl⟩ (Nat.le_of_ble_eq_true rfl) rfl (fun hr23 hs23 => ?_)
    refine r_goto (tgt := 125) h dX12_say_116 (by decide) ?_
    refine r_sub h [1, 2, 3, 4] rfl ?_
    exact b_Mo_say_125 h hr hw ht pu1 pc1 x2 x3 r23 s23 rx2 rx3 hr23 hf
set_option maxRecDepth 20000 in
theorem m_Mo_say {l : Launch} {D : va_G} {cs : Nat → ClassId} {aS aV : Nat} {A : Nat → Prop} {ad : Nat → Nat} {n : Nat} {nl : Nat → Nat → Bool} {out : Int × SS} (hw : w_WH n nl) (ht : 86 < n) {u1 : Nat} (pu1 : u1 < n) (pc1 : rC u1 = 14) {a2 : Int} (ra2 : rI a2) {a3 : Int} (ra3 : rI a3) {s0 : SS} (hs0 : rS s0) (hf : f_Mo_say u1 a2 a3 s0 = some out) : w_MC l D cs aS aV A yX12_say cX12_say 7 0 rm_Mo_say ad n nl [.ref (ad 86), .ref (ad u1), .int (vI a2), .int (vI a3)] s0 (w_Po ad n nl out) := by
  refine w_MC_of (by decide +kernel) (by decide) hs0 (Nat.le_of_ble_eq_true rfl) (fun K h hr => ?_)
  refine r_lv (lv' := [(0, .ref (ad 86)), (1, .ref (ad u1)), (2, .int (vI a2)), (3, .int (vI a3))]) rfl ?_
  unfold f_Mo_say at hf
  refine r_rS h (fun hs0 => ?_)
  refine r_aload_n h dX12_say_0 rfl 1 rfl ?_
  refine r_bipush h dX12_say_1 (by decide) ?_
  obtain ⟨hi1, hf⟩ := oc_some hf
  refine r_iald h dX12_say_3 pu1 pc1 (rIc rfl) rfl (j := 19) rfl hi1 ?_
  refine r_iconst h dX12_say_4 ?_
  refine r_irem h dX12_say_5 (hs0.1 _ _) (rIc rfl) (by decide) ?_
  refine r_if_ne (tgt := 16) h dX12_say_6 (by decide) (rI_tmod (hs0.1 _ _) (rIc rfl)) (fun hc2 => ?_) (fun hc2 => ?_)
  · have hf := ite_f hc2 hf
    refine r_aload_n h dX12_say_16 rfl 1 rfl ?_
    refine r_bipush h dX12_say_17 (by decide) ?_
    obtain ⟨hi3, hf⟩ := oc_some hf
    refine r_iald h dX12_say_19 pu1 pc1 (rIc rfl) rfl (j := 14) rfl hi3 ?_
    exact b_Mo_say_20 h hr hw ht pu1 pc1 a2 a3 (gi s0 u1 14) s0 ra2 ra3 (hs0.1 _ _) hf
  · have hf := ite_nf hc2 hf
    refine r_aload_n h dX12_say_9 rfl 1 rfl ?_
    refine r_bipush h dX12_say_10 (by decide) ?_
    obtain ⟨hi4, hf⟩ := oc_some hf
    refine r_iald h dX12_say_12 pu1 pc1 (rIc rfl) rfl (j := 13) rfl hi4 ?_
    refine r_goto (tgt := 20) h dX12_say_13 (by decide) ?_
    exact b_Mo_say_20 h hr hw ht pu1 pc1 a2 a3 (gi s0 u1 13) s0 ra2 ra3 (hs0.1 _ _) hf
set_option maxRecDepth 20000 in
theorem b_Mo_openLength_11 {l : Launch} {D : va_G} {cs : Nat → ClassId} {aS aV : Nat} {A : Nat → Prop} {K : KT} {ad : Nat → Nat} {n : Nat} {nl : Nat → Nat → Bool} {out : Int × SS} (h : w_Cl l rm_Mo_openLength D cs aS aV A cX12_openLength 4 RX12 "openLength" K) (hr : w_Rt 1 cX12_openLength 0 0 (w_Po ad n nl out) K) (hw : w_WH n nl) (ht : 86 < n) : ∀ (fu : Nat) (s0 : SS), l_Mo_openLength_11 fu s0 = some out → K ad n nl 0 0 11 [(0, .ref (ad 86))] [] s0 := by
  intro fu
  induction fu with
  | zero =>
    intro s0 hf
    rw [l_Mo_openLength_11] at hf
    cases hf
  | succ fu ih =>
    intro s0 hf
    rw [l_Mo_openLength_11] at hf
    refine r_rS h (fun hs0 => ?_)
    refine r_aload_n h dX12_openLength_11 rfl 0 rfl ?_
    have hq1 := w_ref hw ht rC_86 (by decide) (k := 53) (by decide) rf_12_53
    refine g_X12_113 h dX12_openLength_12 ht rC_86 hq1.1 ?_
    refine r_bipush h dX12_openLength_15 (by decide) ?_
    refine r_iald h dX12_openLength_17 hq1.2 rC_119 (rIc rfl) (N := 44) (by rw [rN_119]; rfl) (j := 19) rfl (by decide) ?_
    refine r_sipush h dX12_openLength_18 (by decide) ?_
    refine r_icmp_ge (tgt := 52) h dX12_openLength_21 (by decide) (hs0.1 _ _) (rIc rfl) (fun hc2 => ?_) (fun hc2 => ?_)
    · have hf := ite_t hc2 hf
      refine r_iconst h dX12_openLength_52 ?_
      exact r_ret1 hr dX12_openLength_53 (rIc rfl) hf
    · have hf := ite_f hc2 hf
      refine r_aload_n h dX12_openLength_24 rfl 0 rfl ?_
      refine r_aload_n h dX12_openLength_25 rfl 0 rfl ?_
      have hq3 := w_ref hw ht rC_86 (by decide) (k := 53) (by decide) rf_12_53
      refine g_X12_113 h dX12_openLength_26 ht rC_86 hq3.1 ?_
      refine r_iconst h dX12_openLength_29 ?_
      refine r_iconst h dX12_openLength_30 ?_
      obtain ⟨r4, s4, hq4, hf⟩ := ob_some hf
      refine r_callV0 h [.ref (ad 119), .int (vI (-1)), .int (vI (-1))] dX12_openLength_31 (fun hs => m_Mo_say hw ht hq3.2 rC_119 (rIc rfl) (rIc rfl) hs hq4) ml_X12_428 cv_Mo_say rfl (co := 12) rfl (by decide) ht rC_86 ⟨rfl, rfl⟩ ⟨Nat.le_of_ble_eq_true rfl, Nat.le_of_ble_eq_true rfl⟩ ⟨Nat.le_of_ble_eq_true rfl, Nat.le_of_ble_eq_true rfl⟩ (Nat.le_of_ble_eq_true rfl) rfl (fun hr4 hs4 => ?_)
      refine r_aload_n h dX12_openLength_34 rfl 0 rfl ?_
      have hq5 := w_ref hw ht rC_86 (by decide) (k := 53) (by decide) rf_12_53
      refine g_X12_113 h dX12_openLength_35 ht rC_86 hq5.1 ?_
      obtain ⟨r6, s6, hq6, hf⟩ := ob_some hf
      refine r_callS2 h [.ref (ad 119)] dX12_openLength_38 (fun hs => m_Mo_isEnded hw hq5.2 rC_119 hs hq6) ml_X12_432 cv_Mo_isEnded rfl ⟨rfl, rfl⟩ ⟨Nat.le_of_ble_eq_true rfl, Nat.le_of_ble_eq_true rfl⟩ ⟨Nat.le_of_ble_eq_true rfl, Nat.le_of_ble_eq_true rfl⟩ (Nat.le_of_ble_eq_true rfl) rfl (fun hr6 hs6 => ?_)
      refine r_if_eq (tgt := 11) h dX12_openLength_41 (by decide) (rI_b hr6) (fun hc7 => ?_) (fun hc7 => ?_)
      · have hf := ite_t hc7 hf
        exact ih s6 hf
      · have hf := ite_f hc7 hf
        refine r_aload_n h dX12_openLength_44 rfl 0 rfl ?_
        have hq8 := w_ref hw ht rC_86 (by decide) (k := 53) (by decide) rf_12_53
        refine g_X12_113 h dX12_openLength_45 ht rC_86 hq8.1 ?_
        refine r_bipush h dX12_openLength_48 (by decide) ?_
        refine r_iald h dX12_openLength_50 hq8.2 rC_119 (rIc rfl) (N := 44) (by rw [rN_119]; rfl) (j := 19) rfl (by decide) ?_
        exact r_ret1 hr dX12_openLength_51 (hs6.1 _ _) hf
set_option maxRecDepth 20000 in
theorem m_Mo_openLength {l : Launch} {D : va_G} {cs : Nat → ClassId} {aS aV : Nat} {A : Nat → Prop} {ad : Nat → Nat} {n : Nat} {nl : Nat → Nat → Bool} {out : Int × SS} (hw : w_WH n nl) (ht : 86 < n) {a1 : Int} (ra1 : rI a1) {a2 : Int} (ra2 : rI a2) {a3 : Int} (ra3 : rI a3) {s0 : SS} (hs0 : rS s0) (hf : f_Mo_openLength a1 a2 a3 s0 = some out) : w_MC l D cs aS aV A yX12_openLength cX12_openLength 4 1 rm_Mo_openLength ad n nl [.ref (ad 86), .int (vI a1), .int (vI a2), .int (vI a3)] s0 (w_Po ad n nl out) := by
  refine w_MC_of (by decide +kernel) (by decide) hs0 (Nat.le_of_ble_eq_true rfl) (fun K h hr => ?_)
  refine r_lv (lv' := [(0, .ref (ad 86)), (1, .int (vI a1)), (2, .int (vI a2)), (3, .int (vI a3))]) rfl ?_
  unfold f_Mo_openLength at hf
  refine r_rS h (fun hs0 => ?_)
  refine r_aload_n h dX12_openLength_0 rfl 0 rfl ?_
  refine r_aload_n h dX12_openLength_1 rfl 0 rfl ?_
  have hq1 := w_ref hw ht rC_86 (by decide) (k := 53) (by decide) rf_12_53
  refine g_X12_113 h dX12_openLength_2 ht rC_86 hq1.1 ?_
  refine r_iload_n h dX12_openLength_5 rfl 1 rfl ?_
  refine r_iload_n h dX12_openLength_6 rfl 2 rfl ?_
  refine r_iload_n h dX12_openLength_7 rfl 3 rfl ?_
  obtain ⟨r2, s2, hq2, hf⟩ := ob_some hf
  refine r_callV0 h [.ref (ad 119), .int (vI a1), .int (vI a2), .int (vI a3)] dX12_openLength_8 (fun hs => m_Mo_begin hw ht hq1.2 rC_119 ra1 ra2 ra3 hs hq2) ml_X12_424 cv_Mo_begin rfl (co := 12) rfl (by decide) ht rC_86 ⟨rfl, rfl⟩ ⟨Nat.le_of_ble_eq_true rfl, Nat.le_of_ble_eq_true rfl⟩ ⟨Nat.le_of_ble_eq_true rfl, Nat.le_of_ble_eq_true rfl⟩ (Nat.le_of_ble_eq_true rfl) rfl (fun hr2 hs2 => ?_)
  refine r_sub h [0] rfl ?_
  exact b_Mo_openLength_11 h hr hw ht FU s2 hf
set_option maxRecDepth 20000 in
theorem m_Mo_quarrel {l : Launch} {D : va_G} {cs : Nat → ClassId} {aS aV : Nat} {A : Nat → Prop} {ad : Nat → Nat} {n : Nat} {nl : Nat → Nat → Bool} {out : Int × SS} (hw : w_WH n nl) (ht : 86 < n) {a1 : Int} (ra1 : rI a1) {a2 : Int} (ra2 : rI a2) {a3 : Int} (ra3 : rI a3) {s0 : SS} (hs0 : rS s0) (hf : f_Mo_quarrel a1 a2 a3 s0 = some out) : w_MC l D cs aS aV A yX12_quarrel cX12_quarrel 4 1 rm_Mo_quarrel ad n nl [.ref (ad 86), .int (vI a1), .int (vI a2), .int (vI a3)] s0 (w_Po ad n nl out) := by
  refine w_MC_of (by decide +kernel) (by decide) hs0 (Nat.le_of_ble_eq_true rfl) (fun K h hr => ?_)
  refine r_lv (lv' := [(0, .ref (ad 86)), (1, .int (vI a1)), (2, .int (vI a2)), (3, .int (vI a3))]) rfl ?_
  unfold f_Mo_quarrel at hf
  refine r_rS h (fun hs0 => ?_)
  refine r_aload_n h dX12_quarrel_0 rfl 0 rfl ?_
  refine r_iload_n h dX12_quarrel_1 rfl 1 rfl ?_
  refine r_iload_n h dX12_quarrel_2 rfl 2 rfl ?_
  refine r_iload_n h dX12_quarrel_3 rfl 3 rfl ?_
  obtain ⟨r1, s1, hq1, hf⟩ := ob_some hf
  refine r_callV2 h [.int (vI a1), .int (vI a2), .int (vI a3)] dX12_quarrel_4 (fun hs => m_Mo_isCouple hw ht ra1 ra2 ra3 hs hq1) ml_X12_436 cv_Mo_isCouple rfl (co := 12) rfl (by decide) ht rC_86 ⟨rfl, rfl⟩ ⟨Nat.le_of_ble_eq_true rfl, Nat.le_of_ble_eq_true rfl⟩ ⟨Nat.le_of_ble_eq_true rfl, Nat.le_of_ble_eq_true rfl⟩ (Nat.le_of_ble_eq_true rfl) rfl (fun hr1 hs1 => ?_)
  refine r_if_eq (tgt := 20) h dX12_quarrel_7 (by decide) (rI_b hr1) (fun hc2 => ?_) (fun hc2 => ?_)
  · have hf := ite_t hc2 hf
    refine r_bipush h dX12_quarrel_20 (by decide) ?_
    exact r_ret1 hr dX12_quarrel_22 (rIc rfl) hf
  · have hf := ite_f hc2 hf
    refine r_aload_n h dX12_quarrel_10 rfl 0 rfl ?_
    refine r_iload_n h dX12_quarrel_11 rfl 1 rfl ?_
    refine r_iload_n h dX12_quarrel_12 rfl 2 rfl ?_
    refine r_iload_n h dX12_quarrel_13 rfl 3 rfl ?_
    obtain ⟨r3, s3, hq3, hf⟩ := ob_some hf
    refine r_callV1 h [.int (vI a1), .int (vI a2), .int (vI a3)] dX12_quarrel_14 (fun hs => m_Mo_openLength hw ht ra1 ra2 ra3 hs hq3) ml_X12_439 cv_Mo_openLength rfl (co := 12) rfl (by decide) ht rC_86 ⟨rfl, rfl⟩ ⟨Nat.le_of_ble_eq_true rfl, Nat.le_of_ble_eq_true rfl⟩ ⟨Nat.le_of_ble_eq_true rfl, Nat.le_of_ble_eq_true rfl⟩ (Nat.le_of_ble_eq_true rfl) rfl (fun hr3 hs3 => ?_)
    refine r_goto (tgt := 22) h dX12_quarrel_17 (by decide) ?_
    exact r_ret1 hr dX12_quarrel_22 hr3 hf
set_option maxRecDepth 20000 in
theorem b_Mo_heat_71 {l : Launch} {D : va_G} {cs : Nat → ClassId} {aS aV : Nat} {A : Nat → Prop} {K : KT} {ad : Nat → Nat} {n : Nat} {nl : Nat → Nat → Bool} {out : Int × SS} (h : w_Cl l rm_Mo_heat D cs aS aV A cX12_heat 5 RX12 "heat" K) (hr : w_Rt 1 cX12_heat 0 0 (w_Po ad n nl out) K) (hw : w_WH n nl) (ht : 86 < n) (s0 : SS) (hf : j_Mo_heat_71 s0 = some out) : K ad n nl 0 0 71 [(0, .ref (ad 86))] [] s0 := by
  unfold j_Mo_heat_71 at hf
  refine r_rS h (fun hs0 => ?_)
  refine r_aload_n h dX12_heat_71 rfl 0 rfl ?_
  have hq1 := w_ref hw ht rC_86 (by decide) (k := 53) (by decide) rf_12_53
  refine g_X12_113 h dX12_heat_72 ht rC_86 hq1.1 ?_
  refine r_bipush h dX12_heat_75 (by decide) ?_
  refine r_iald h dX12_heat_77 hq1.2 rC_119 (rIc rfl) (N := 44) (by rw [rN_119]; rfl) (j := 20) rfl (by decide) ?_
  exact r_ret1 hr dX12_heat_78 (hs0.1 _ _) hf
set_option maxRecDepth 20000 in
theorem b_Mo_heat_36 {l : Launch} {D : va_G} {cs : Nat → ClassId} {aS aV : Nat} {A : Nat → Prop} {K : KT} {ad : Nat → Nat} {n : Nat} {nl : Nat → Nat → Bool} {out : Int × SS} (h : w_Cl l rm_Mo_heat D cs aS aV A cX12_heat 5 RX12 "heat" K) (hr : w_Rt 1 cX12_heat 0 0 (w_Po ad n nl out) K) (hw : w_WH n nl) (ht : 86 < n) {y4 : Int} (ry4 : rI y4) : ∀ (fu : Nat) (s0 : SS), l_Mo_heat_36 y4 fu s0 = some out → K ad n nl 0 0 36 [(0, .ref (ad 86)), (4, .int (vI y4))] [] s0 := by
  intro fu
  induction fu with
  | zero =>
    intro s0 hf
    rw [l_Mo_heat_36] at hf
    cases hf
  | succ fu ih =>
    intro s0 hf
    rw [l_Mo_heat_36] at hf
    refine r_rS h (fun hs0 => ?_)
    refine r_aload_n h dX12_heat_36 rfl 0 rfl ?_
    have hq1 := w_ref hw ht rC_86 (by decide) (k := 53) (by decide) rf_12_53
    refine g_X12_113 h dX12_heat_37 ht rC_86 hq1.1 ?_
    refine r_bipush h dX12_heat_40 (by decide) ?_
    refine r_iald h dX12_heat_42 hq1.2 rC_119 (rIc rfl) (N := 44) (by rw [rN_119]; rfl) (j := 19) rfl (by decide) ?_
    refine r_iload h dX12_heat_43 1 rfl ?_
    refine r_icmp_ge (tgt := 71) h dX12_heat_45 (by decide) (hs0.1 _ _) ry4 (fun hc2 => ?_) (fun hc2 => ?_)
    · have hf := ite_t hc2 hf
      refine r_sub h [0] rfl ?_
      exact b_Mo_heat_71 h hr hw ht s0 hf
    · have hf := ite_f hc2 hf
      refine r_aload_n h dX12_heat_48 rfl 0 rfl ?_
      have hq3 := w_ref hw ht rC_86 (by decide) (k := 53) (by decide) rf_12_53
      refine g_X12_113 h dX12_heat_49 ht rC_86 hq3.1 ?_
      obtain ⟨r4, s4, hq4, hf⟩ := ob_some hf
      refine r_callS2 h [.ref (ad 119)] dX12_heat_52 (fun hs => m_Mo_isEnded hw hq3.2 rC_119 hs hq4) ml_X12_432 cv_Mo_isEnded rfl ⟨rfl, rfl⟩ ⟨Nat.le_of_ble_eq_true rfl, Nat.le_of_ble_eq_true rfl⟩ ⟨Nat.le_of_ble_eq_true rfl, Nat.le_of_ble_eq_true rfl⟩ (Nat.le_of_ble_eq_true rfl) rfl (fun hr4 hs4 => ?_)
      refine r_if_ne (tgt := 71) h dX12_heat_55 (by decide) (rI_b hr4) (fun hc5 => ?_) (fun hc5 => ?_)
      · have hf := ite_f hc5 hf
        refine r_sub h [0] rfl ?_
        exact b_Mo_heat_71 h hr hw ht s4 hf
      · have hf := ite_nf hc5 hf
        refine r_aload_n h dX12_heat_58 rfl 0 rfl ?_
        refine r_aload_n h dX12_heat_59 rfl 0 rfl ?_
        have hq6 := w_ref hw ht rC_86 (by decide) (k := 53) (by decide) rf_12_53
        refine g_X12_113 h dX12_heat_60 ht rC_86 hq6.1 ?_
        refine r_iconst h dX12_heat_63 ?_
        refine r_iconst h dX12_heat_64 ?_
        obtain ⟨r7, s7, hq7, hf⟩ := ob_some hf
        refine r_callV0 h [.ref (ad 119), .int (vI (-1)), .int (vI (-1))] dX12_heat_65 (fun hs => m_Mo_say hw ht hq6.2 rC_119 (rIc rfl) (rIc rfl) hs hq7) ml_X12_428 cv_Mo_say rfl (co := 12) rfl (by decide) ht rC_86 ⟨rfl, rfl⟩ ⟨Nat.le_of_ble_eq_true rfl, Nat.le_of_ble_eq_true rfl⟩ ⟨Nat.le_of_ble_eq_true rfl, Nat.le_of_ble_eq_true rfl⟩ (Nat.le_of_ble_eq_true rfl) rfl (fun hr7 hs7 => ?_)
        refine r_goto (tgt := 36) h dX12_heat_68 (by decide) ?_
        exact ih s7 hf
set_option maxRecDepth 20000 in
theorem m_Mo_heat {l : Launch} {D : va_G} {cs : Nat → ClassId} {aS aV : Nat} {A : Nat → Prop} {ad : Nat → Nat} {n : Nat} {nl : Nat → Nat → Bool} {out : Int × SS} (hw : w_WH n nl) (ht : 86 < n) {a1 : Int} (ra1 : rI a1) {a2 : Int} (ra2 : rI a2) {a3 : Int} (ra3 : rI a3) {a4 : Int} (ra4 : rI a4) {s0 : SS} (hs0 : rS s0) (hf : f_Mo_heat a1 a2 a3 a4 s0 = some out) : w_MC l D cs aS aV A yX12_heat cX12_heat 5 1 rm_Mo_heat ad n nl [.ref (ad 86), .int (vI a1), .int (vI a2), .int (vI a3), .int (vI a4)] s0 (w_Po ad n nl out) := by
  refine w_MC_of (by decide +kernel) (by decide) hs0 (Nat.le_of_ble_eq_true rfl) (fun K h hr => ?_)
  refine r_lv (lv' := [(0, .ref (ad 86)), (1, .int (vI a1)), (2, .int (vI a2)), (3, .int (vI a3)), (4, .int (vI a4))]) rfl ?_
  unfold f_Mo_heat at hf
  refine r_rS h (fun hs0 => ?_)
  refine r_aload_n h dX12_heat_0 rfl 0 rfl ?_
  refine r_iload_n h dX12_heat_1 rfl 1 rfl ?_
  refine r_iload_n h dX12_heat_2 rfl 2 rfl ?_
  refine r_iload_n h dX12_heat_3 rfl 3 rfl ?_
  obtain ⟨r1, s1, hq1, hf⟩ := ob_some hf
  refine r_callV2 h [.int (vI a1), .int (vI a2), .int (vI a3)] dX12_heat_4 (fun hs => m_Mo_isCouple hw ht ra1 ra2 ra3 hs hq1) ml_X12_436 cv_Mo_isCouple rfl (co := 12) rfl (by decide) ht rC_86 ⟨rfl, rfl⟩ ⟨Nat.le_of_ble_eq_true rfl, Nat.le_of_ble_eq_true rfl⟩ ⟨Nat.le_of_ble_eq_true rfl, Nat.le_of_ble_eq_true rfl⟩ (Nat.le_of_ble_eq_true rfl) rfl (fun hr1 hs1 => ?_)
  refine r_if_eq (tgt := 22) h dX12_heat_7 (by decide) (rI_b hr1) (fun hc2 => ?_) (fun hc2 => ?_)
  · have hf := ite_t hc2 hf
    refine r_bipush h dX12_heat_22 (by decide) ?_
    exact r_ret1 hr dX12_heat_24 (rIc rfl) hf
  · have hf := ite_f hc2 hf
    refine r_iload h dX12_heat_10 4 rfl ?_
    refine r_iconst h dX12_heat_12 ?_
    refine r_sipush h dX12_heat_13 (by decide) ?_
    obtain ⟨r3, s3, hq3, hf⟩ := ob_some hf
    refine r_callS2 h [.int (vI a4), .int (vI 0), .int (vI 200)] dX12_heat_16 (fun hs => m_Mo_isIn hw ra4 (rIc rfl) (rIc rfl) hs hq3) ml_X12_400 cv_Mo_isIn rfl ⟨rfl, rfl⟩ ⟨Nat.le_of_ble_eq_true rfl, Nat.le_of_ble_eq_true rfl⟩ ⟨Nat.le_of_ble_eq_true rfl, Nat.le_of_ble_eq_true rfl⟩ (Nat.le_of_ble_eq_true rfl) rfl (fun hr3 hs3 => ?_)
    refine r_if_ne (tgt := 25) h dX12_heat_19 (by decide) (rI_b hr3) (fun hc4 => ?_) (fun hc4 => ?_)
    · have hf := ite_f hc4 hf
      refine r_aload_n h dX12_heat_25 rfl 0 rfl ?_
      refine r_aload_n h dX12_heat_26 rfl 0 rfl ?_
      have hq5 := w_ref hw ht rC_86 (by decide) (k := 53) (by decide) rf_12_53
      refine g_X12_113 h dX12_heat_27 ht rC_86 hq5.1 ?_
      refine r_iload_n h dX12_heat_30 rfl 1 rfl ?_
      refine r_iload_n h dX12_heat_31 rfl 2 rfl ?_
      refine r_iload_n h dX12_heat_32 rfl 3 rfl ?_
      obtain ⟨r6, s6, hq6, hf⟩ := ob_some hf
      refine r_callV0 h [.ref (ad 119), .int (vI a1), .int (vI a2), .int (vI a3)] dX12_heat_33 (fun hs => m_Mo_begin hw ht hq5.2 rC_119 ra1 ra2 ra3 hs hq6) ml_X12_424 cv_Mo_begin rfl (co := 12) rfl (by decide) ht rC_86 ⟨rfl, rfl⟩ ⟨Nat.le_of_ble_eq_true rfl, Nat.le_of_ble_eq_true rfl⟩ ⟨Nat.le_of_ble_eq_true rfl, Nat.le_of_ble_eq_true rfl⟩ (Nat.le_of_ble_eq_true rfl) rfl (fun hr6 hs6 => ?_)
      refine r_sub h [0, 4] rfl ?_
      exact b_Mo_heat_36 h hr hw ht ra4 FU s6 hf
    · have hf := ite_nf hc4 hf
      refine r_bipush h dX12_heat_22 (by decide) ?_
      exact r_ret1 hr dX12_heat_24 (rIc rfl) hf
set_option maxRecDepth 20000 in
theorem m_Mo_soul {l : Launch} {D : va_G} {cs : Nat → ClassId} {aS aV : Nat} {A : Nat → Prop} {ad : Nat → Nat} {n : Nat} {nl : Nat → Nat → Bool} {out : Int × SS} (hw : w_WH n nl) (ht : 86 < n) {a1 : Int} (ra1 : rI a1) {a2 : Int} (ra2 : rI a2) {s0 : SS} (hs0 : rS s0) (hf : f_Mo_soul a1 a2 s0 = some out) : w_MC l D cs aS aV A yX12_soul cX12_soul 3 1 rm_Mo_soul ad n nl [.ref (ad 86), .int (vI a1), .int (vI a2)] s0 (w_Po ad n nl out) := by
  refine w_MC_of (by decide +kernel) (by decide) hs0 (Nat.le_of_ble_eq_true rfl) (fun K h hr => ?_)
  refine r_lv (lv' := [(0, .ref (ad 86)), (1, .int (vI a1)), (2, .int (vI a2))]) rfl ?_
  unfold f_Mo_soul at hf
  refine r_rS h (fun hs0 => ?_)
  refine r_iload_n h dX12_soul_0 rfl 1 rfl ?_
  refine r_iconst h dX12_soul_1 ?_
  refine r_aload_n h dX12_soul_2 rfl 0 rfl ?_
  obtain ⟨r1, s1, hq1, hf⟩ := ob_some hf
  refine r_callV1 h [] dX12_soul_3 (fun hs => m_Mo_soulMany hw ht hs hq1) ml_X12_404 cv_Mo_soulMany rfl (co := 12) rfl (by decide) ht rC_86 ⟨rfl, rfl⟩ ⟨Nat.le_of_ble_eq_true rfl, Nat.le_of_ble_eq_true rfl⟩ ⟨Nat.le_of_ble_eq_true rfl, Nat.le_of_ble_eq_true rfl⟩ (Nat.le_of_ble_eq_true rfl) rfl (fun hr1 hs1 => ?_)
  refine r_iconst h dX12_soul_6 ?_
  refine r_isub h dX12_soul_7 ?_
  obtain ⟨r2, s2, hq2, hf⟩ := ob_some hf
  refine r_callS2 h [.int (vI a1), .int (vI 0), .int (vI (iw (r1 - 1)))] dX12_soul_8 (fun hs => m_Mo_isIn hw ra1 (rIc rfl) (rI_iw _) hs hq2) ml_X12_400 cv_Mo_isIn rfl ⟨rfl, rfl⟩ ⟨Nat.le_of_ble_eq_true rfl, Nat.le_of_ble_eq_true rfl⟩ ⟨Nat.le_of_ble_eq_true rfl, Nat.le_of_ble_eq_true rfl⟩ (Nat.le_of_ble_eq_true rfl) rfl (fun hr2 hs2 => ?_)
  refine r_if_eq (tgt := 38) h dX12_soul_11 (by decide) (rI_b hr2) (fun hc3 => ?_) (fun hc3 => ?_)
  · have hf := ite_t hc3 hf
    refine r_iconst h dX12_soul_38 ?_
    exact r_ret1 hr dX12_soul_39 (rIc rfl) hf
  · have hf := ite_f hc3 hf
    refine r_iload_n h dX12_soul_14 rfl 2 rfl ?_
    refine r_iconst h dX12_soul_15 ?_
    refine r_iconst h dX12_soul_16 ?_
    obtain ⟨r4, s4, hq4, hf⟩ := ob_some hf
    refine r_callS2 h [.int (vI a2), .int (vI 0), .int (vI 1)] dX12_soul_17 (fun hs => m_Mo_isIn hw ra2 (rIc rfl) (rIc rfl) hs hq4) ml_X12_400 cv_Mo_isIn rfl ⟨rfl, rfl⟩ ⟨Nat.le_of_ble_eq_true rfl, Nat.le_of_ble_eq_true rfl⟩ ⟨Nat.le_of_ble_eq_true rfl, Nat.le_of_ble_eq_true rfl⟩ (Nat.le_of_ble_eq_true rfl) rfl (fun hr4 hs4 => ?_)
    refine r_if_eq (tgt := 38) h dX12_soul_20 (by decide) (rI_b hr4) (fun hc5 => ?_) (fun hc5 => ?_)
    · have hf := ite_t hc5 hf
      refine r_iconst h dX12_soul_38 ?_
      exact r_ret1 hr dX12_soul_39 (rIc rfl) hf
    · have hf := ite_f hc5 hf
      refine r_aload_n h dX12_soul_23 rfl 0 rfl ?_
      have hq6 := w_ref hw ht rC_86 (by decide) (k := 52) (by decide) rf_12_52
      refine g_X12_110 h dX12_soul_24 ht rC_86 hq6.1 ?_
      refine r_iconst h dX12_soul_27 ?_
      refine r_iconst h dX12_soul_28 ?_
      refine r_iload_n h dX12_soul_29 rfl 1 rfl ?_
      refine r_imul h dX12_soul_30 ?_
      refine r_iadd h dX12_soul_31 ?_
      refine r_iload_n h dX12_soul_32 rfl 2 rfl ?_
      refine r_iadd h dX12_soul_33 ?_
      obtain ⟨hi7, hf⟩ := oc_some hf
      refine r_iald h dX12_soul_34 hq6.2 rC_118 (rI_iw _) (N := 44) (by rw [rN_118]; rfl) (j := (iw ((iw (1 + (iw (2 * a1)))) + a2)).toNat) rfl hi7 ?_
      refine r_goto (tgt := 39) h dX12_soul_35 (by decide) ?_
      exact r_ret1 hr dX12_soul_39 (hs4.1 _ _) hf
set_option maxRecDepth 20000 in
theorem m_Mo_fromOf {l : Launch} {D : va_G} {cs : Nat → ClassId} {aS aV : Nat} {A : Nat → Prop} {ad : Nat → Nat} {n : Nat} {nl : Nat → Nat → Bool} {out : Int × SS} (hw : w_WH n nl) (ht : 86 < n) {a1 : Int} (ra1 : rI a1) {s0 : SS} (hs0 : rS s0) (hf : f_Mo_fromOf a1 s0 = some out) : w_MC l D cs aS aV A yX12_fromOf cX12_fromOf 2 1 rm_Mo_fromOf ad n nl [.ref (ad 86), .int (vI a1)] s0 (w_Po ad n nl out) := by
  refine w_MC_of (by decide +kernel) (by decide) hs0 (Nat.le_of_ble_eq_true rfl) (fun K h hr => ?_)
  refine r_lv (lv' := [(0, .ref (ad 86)), (1, .int (vI a1))]) rfl ?_
  unfold f_Mo_fromOf at hf
  refine r_rS h (fun hs0 => ?_)
  refine r_aload_n h dX12_fromOf_0 rfl 0 rfl ?_
  have hq1 := w_ref hw ht rC_86 (by decide) (k := 19) (by decide) rf_12_19
  refine g_X12_45 h dX12_fromOf_1 ht rC_86 hq1.1 ?_
  refine r_bipush h dX12_fromOf_4 (by decide) ?_
  refine r_aload_n h dX12_fromOf_6 rfl 0 rfl ?_
  refine g_X12_295 h dX12_fromOf_7 ht rC_86 ?_
  refine r_imul h dX12_fromOf_10 ?_
  refine r_iload_n h dX12_fromOf_11 rfl 1 rfl ?_
  refine r_iadd h dX12_fromOf_12 ?_
  obtain ⟨hi2, hf⟩ := oc_some hf
  refine r_iald h dX12_fromOf_13 hq1.2 rC_97 (rI_iw _) (N := 28) (by rw [rN_97]; rfl) (j := (iw ((iw (14 * (gi s0 86 40))) + a1)).toNat) rfl hi2 ?_
  exact r_ret1 hr dX12_fromOf_14 (hs0.1 _ _) hf
set_option maxRecDepth 20000 in
theorem m_Mo_toOf {l : Launch} {D : va_G} {cs : Nat → ClassId} {aS aV : Nat} {A : Nat → Prop} {ad : Nat → Nat} {n : Nat} {nl : Nat → Nat → Bool} {out : Int × SS} (hw : w_WH n nl) (ht : 86 < n) {a1 : Int} (ra1 : rI a1) {s0 : SS} (hs0 : rS s0) (hf : f_Mo_toOf a1 s0 = some out) : w_MC l D cs aS aV A yX12_toOf cX12_toOf 2 1 rm_Mo_toOf ad n nl [.ref (ad 86), .int (vI a1)] s0 (w_Po ad n nl out) := by
  refine w_MC_of (by decide +kernel) (by decide) hs0 (Nat.le_of_ble_eq_true rfl) (fun K h hr => ?_)
  refine r_lv (lv' := [(0, .ref (ad 86)), (1, .int (vI a1))]) rfl ?_
  unfold f_Mo_toOf at hf
  refine r_rS h (fun hs0 => ?_)
  refine r_aload_n h dX12_toOf_0 rfl 0 rfl ?_
  have hq1 := w_ref hw ht rC_86 (by decide) (k := 20) (by decide) rf_12_20
  refine g_X12_48 h dX12_toOf_1 ht rC_86 hq1.1 ?_
  refine r_bipush h dX12_toOf_4 (by decide) ?_
  refine r_aload_n h dX12_toOf_6 rfl 0 rfl ?_
  refine g_X12_295 h dX12_toOf_7 ht rC_86 ?_
  refine r_imul h dX12_toOf_10 ?_
  refine r_iload_n h dX12_toOf_11 rfl 1 rfl ?_
  refine r_iadd h dX12_toOf_12 ?_
  obtain ⟨hi2, hf⟩ := oc_some hf
  refine r_iald h dX12_toOf_13 hq1.2 rC_98 (rI_iw _) (N := 28) (by rw [rN_98]; rfl) (j := (iw ((iw (14 * (gi s0 86 40))) + a1)).toNat) rfl hi2 ?_
  exact r_ret1 hr dX12_toOf_14 (hs0.1 _ _) hf
set_option maxRecDepth 20000 in
theorem m_Mo_milesOf {l : Launch} {D : va_G} {cs : Nat → ClassId} {aS aV : Nat} {A : Nat → Prop} {ad : Nat → Nat} {n : Nat} {nl : Nat → Nat → Bool} {out : Int × SS} (hw : w_WH n nl) (ht : 86 < n) {a1 : Int} (ra1 : rI a1) {s0 : SS} (hs0 : rS s0) (hf : f_Mo_milesOf a1 s0 = some out) : w_MC l D cs aS aV A yX12_milesOf cX12_milesOf 2 1 rm_Mo_milesOf ad n nl [.ref (ad 86), .int (vI a1)] s0 (w_Po ad n nl out) := by
  refine w_MC_of (by decide +kernel) (by decide) hs0 (Nat.le_of_ble_eq_true rfl) (fun K h hr => ?_)
  refine r_lv (lv' := [(0, .ref (ad 86)), (1, .int (vI a1))]) rfl ?_
  unfold f_Mo_milesOf at hf
  refine r_rS h (fun hs0 => ?_)
  refine r_aload_n h dX12_milesOf_0 rfl 0 rfl ?_
  have hq1 := w_ref hw ht rC_86 (by decide) (k := 21) (by decide) rf_12_21
  refine g_X12_51 h dX12_milesOf_1 ht rC_86 hq1.1 ?_
  refine r_bipush h dX12_milesOf_4 (by decide) ?_
  refine r_aload_n h dX12_milesOf_6 rfl 0 rfl ?_
  refine g_X12_295 h dX12_milesOf_7 ht rC_86 ?_
  refine r_imul h dX12_milesOf_10 ?_
  refine r_iload_n h dX12_milesOf_11 rfl 1 rfl ?_
  refine r_iadd h dX12_milesOf_12 ?_
  obtain ⟨hi2, hf⟩ := oc_some hf
  refine r_iald h dX12_milesOf_13 hq1.2 rC_99 (rI_iw _) (N := 28) (by rw [rN_99]; rfl) (j := (iw ((iw (14 * (gi s0 86 40))) + a1)).toNat) rfl hi2 ?_
  exact r_ret1 hr dX12_milesOf_14 (hs0.1 _ _) hf
set_option maxRecDepth 20000 in
theorem m_Mo_way {l : Launch} {D : va_G} {cs : Nat → ClassId} {aS aV : Nat} {A : Nat → Prop} {ad : Nat → Nat} {n : Nat} {nl : Nat → Nat → Bool} {out : Int × SS} (hw : w_WH n nl) (ht : 86 < n) {a1 : Int} (ra1 : rI a1) {a2 : Int} (ra2 : rI a2) {s0 : SS} (hs0 : rS s0) (hf : f_Mo_way a1 a2 s0 = some out) : w_MC l D cs aS aV A yX12_way cX12_way 3 1 rm_Mo_way ad n nl [.ref (ad 86), .int (vI a1), .int (vI a2)] s0 (w_Po ad n nl out) := by
  refine w_MC_of (by decide +kernel) (by decide) hs0 (Nat.le_of_ble_eq_true rfl) (fun K h hr => ?_)
  refine r_lv (lv' := [(0, .ref (ad 86)), (1, .int (vI a1)), (2, .int (vI a2))]) rfl ?_
  unfold f_Mo_way at hf
  refine r_rS h (fun hs0 => ?_)
  refine r_aload_n h dX12_way_0 rfl 0 rfl ?_
  refine r_iload_n h dX12_way_1 rfl 1 rfl ?_
  obtain ⟨r1, s1, hq1, hf⟩ := ob_some hf
  refine r_callV2 h [.int (vI a1)] dX12_way_2 (fun hs => m_Mo_isWay hw ht ra1 hs hq1) ml_X12_442 cv_Mo_isWay rfl (co := 12) rfl (by decide) ht rC_86 ⟨rfl, rfl⟩ ⟨Nat.le_of_ble_eq_true rfl, Nat.le_of_ble_eq_true rfl⟩ ⟨Nat.le_of_ble_eq_true rfl, Nat.le_of_ble_eq_true rfl⟩ (Nat.le_of_ble_eq_true rfl) rfl (fun hr1 hs1 => ?_)
  refine r_if_ne (tgt := 12) h dX12_way_5 (by decide) (rI_b hr1) (fun hc2 => ?_) (fun hc2 => ?_)
  · have hf := ite_f hc2 hf
    refine r_iload_n h dX12_way_12 rfl 2 rfl ?_
    refine r_if_ne (tgt := 24) h dX12_way_13 (by decide) ra2 (fun hc3 => ?_) (fun hc3 => ?_)
    · have hf := ite_f hc3 hf
      refine r_iload_n h dX12_way_24 rfl 2 rfl ?_
      refine r_iconst h dX12_way_25 ?_
      refine r_icmp_ne (tgt := 37) h dX12_way_26 (by decide) ra2 (rIc rfl) (fun hc4 => ?_) (fun hc4 => ?_)
      · have hf := ite_f hc4 hf
        refine r_iload_n h dX12_way_37 rfl 2 rfl ?_
        refine r_iconst h dX12_way_38 ?_
        refine r_icmp_ne (tgt := 50) h dX12_way_39 (by decide) ra2 (rIc rfl) (fun hc5 => ?_) (fun hc5 => ?_)
        · have hf := ite_f hc5 hf
          refine r_iconst h dX12_way_50 ?_
          exact r_ret1 hr dX12_way_51 (rIc rfl) hf
        · have hf := ite_nf hc5 hf
          refine r_aload_n h dX12_way_42 rfl 0 rfl ?_
          refine r_iload_n h dX12_way_43 rfl 1 rfl ?_
          obtain ⟨r6, s6, hq6, hf⟩ := ob_some hf
          refine r_callV1 h [.int (vI a1)] dX12_way_44 (fun hs => m_Mo_milesOf hw ht ra1 hs hq6) ml_X12_451 cv_Mo_milesOf rfl (co := 12) rfl (by decide) ht rC_86 ⟨rfl, rfl⟩ ⟨Nat.le_of_ble_eq_true rfl, Nat.le_of_ble_eq_true rfl⟩ ⟨Nat.le_of_ble_eq_true rfl, Nat.le_of_ble_eq_true rfl⟩ (Nat.le_of_ble_eq_true rfl) rfl (fun hr6 hs6 => ?_)
          refine r_goto (tgt := 51) h dX12_way_47 (by decide) ?_
          exact r_ret1 hr dX12_way_51 hr6 hf
      · have hf := ite_nf hc4 hf
        refine r_aload_n h dX12_way_29 rfl 0 rfl ?_
        refine r_iload_n h dX12_way_30 rfl 1 rfl ?_
        obtain ⟨r7, s7, hq7, hf⟩ := ob_some hf
        refine r_callV1 h [.int (vI a1)] dX12_way_31 (fun hs => m_Mo_toOf hw ht ra1 hs hq7) ml_X12_448 cv_Mo_toOf rfl (co := 12) rfl (by decide) ht rC_86 ⟨rfl, rfl⟩ ⟨Nat.le_of_ble_eq_true rfl, Nat.le_of_ble_eq_true rfl⟩ ⟨Nat.le_of_ble_eq_true rfl, Nat.le_of_ble_eq_true rfl⟩ (Nat.le_of_ble_eq_true rfl) rfl (fun hr7 hs7 => ?_)
        refine r_goto (tgt := 51) h dX12_way_34 (by decide) ?_
        exact r_ret1 hr dX12_way_51 hr7 hf
    · have hf := ite_nf hc3 hf
      refine r_aload_n h dX12_way_16 rfl 0 rfl ?_
      refine r_iload_n h dX12_way_17 rfl 1 rfl ?_
      obtain ⟨r8, s8, hq8, hf⟩ := ob_some hf
      refine r_callV1 h [.int (vI a1)] dX12_way_18 (fun hs => m_Mo_fromOf hw ht ra1 hs hq8) ml_X12_445 cv_Mo_fromOf rfl (co := 12) rfl (by decide) ht rC_86 ⟨rfl, rfl⟩ ⟨Nat.le_of_ble_eq_true rfl, Nat.le_of_ble_eq_true rfl⟩ ⟨Nat.le_of_ble_eq_true rfl, Nat.le_of_ble_eq_true rfl⟩ (Nat.le_of_ble_eq_true rfl) rfl (fun hr8 hs8 => ?_)
      refine r_goto (tgt := 51) h dX12_way_21 (by decide) ?_
      exact r_ret1 hr dX12_way_51 hr8 hf
  · have hf := ite_nf hc2 hf
    refine r_iconst h dX12_way_8 ?_
    refine r_goto (tgt := 51) h dX12_way_9 (by decide) ?_
    exact r_ret1 hr dX12_way_51 (rIc rfl) hf
set_option maxRecDepth 20000 in
theorem m_Mo_otherEnd {l : Launch} {D : va_G} {cs : Nat → ClassId} {aS aV : Nat} {A : Nat → Prop} {ad : Nat → Nat} {n : Nat} {nl : Nat → Nat → Bool} {out : Int × SS} (hw : w_WH n nl) (ht : 86 < n) {a1 : Int} (ra1 : rI a1) {a2 : Int} (ra2 : rI a2) {s0 : SS} (hs0 : rS s0) (hf : f_Mo_otherEnd a1 a2 s0 = some out) : w_MC l D cs aS aV A yX12_otherEnd cX12_otherEnd 3 1 rm_Mo_otherEnd ad n nl [.ref (ad 86), .int (vI a1), .int (vI a2)] s0 (w_Po ad n nl out) := by
  refine w_MC_of (by decide +kernel) (by decide) hs0 (Nat.le_of_ble_eq_true rfl) (fun K h hr => ?_)
  refine r_lv (lv' := [(0, .ref (ad 86)), (1, .int (vI a1)), (2, .int (vI a2))]) rfl ?_
  unfold f_Mo_otherEnd at hf
  refine r_rS h (fun hs0 => ?_)
  refine r_aload_n h dX12_otherEnd_0 rfl 0 rfl ?_
  refine r_iload_n h dX12_otherEnd_1 rfl 1 rfl ?_
  obtain ⟨r1, s1, hq1, hf⟩ := ob_some hf
  refine r_callV1 h [.int (vI a1)] dX12_otherEnd_2 (fun hs => m_Mo_fromOf hw ht ra1 hs hq1) ml_X12_445 cv_Mo_fromOf rfl (co := 12) rfl (by decide) ht rC_86 ⟨rfl, rfl⟩ ⟨Nat.le_of_ble_eq_true rfl, Nat.le_of_ble_eq_true rfl⟩ ⟨Nat.le_of_ble_eq_true rfl, Nat.le_of_ble_eq_true rfl⟩ (Nat.le_of_ble_eq_true rfl) rfl (fun hr1 hs1 => ?_)
  refine r_iload_n h dX12_otherEnd_5 rfl 2 rfl ?_
  refine r_icmp_ne (tgt := 17) h dX12_otherEnd_6 (by decide) hr1 ra2 (fun hc2 => ?_) (fun hc2 => ?_)
  · have hf := ite_f hc2 hf
    refine r_aload_n h dX12_otherEnd_17 rfl 0 rfl ?_
    refine r_iload_n h dX12_otherEnd_18 rfl 1 rfl ?_
    obtain ⟨r3, s3, hq3, hf⟩ := ob_some hf
    refine r_callV1 h [.int (vI a1)] dX12_otherEnd_19 (fun hs => m_Mo_toOf hw ht ra1 hs hq3) ml_X12_448 cv_Mo_toOf rfl (co := 12) rfl (by decide) ht rC_86 ⟨rfl, rfl⟩ ⟨Nat.le_of_ble_eq_true rfl, Nat.le_of_ble_eq_true rfl⟩ ⟨Nat.le_of_ble_eq_true rfl, Nat.le_of_ble_eq_true rfl⟩ (Nat.le_of_ble_eq_true rfl) rfl (fun hr3 hs3 => ?_)
    refine r_iload_n h dX12_otherEnd_22 rfl 2 rfl ?_
    refine r_icmp_ne (tgt := 34) h dX12_otherEnd_23 (by decide) hr3 ra2 (fun hc4 => ?_) (fun hc4 => ?_)
    · have hf := ite_f hc4 hf
      refine r_iconst h dX12_otherEnd_34 ?_
      exact r_ret1 hr dX12_otherEnd_35 (rIc rfl) hf
    · have hf := ite_nf hc4 hf
      refine r_aload_n h dX12_otherEnd_26 rfl 0 rfl ?_
      refine r_iload_n h dX12_otherEnd_27 rfl 1 rfl ?_
      obtain ⟨r5, s5, hq5, hf⟩ := ob_some hf
      refine r_callV1 h [.int (vI a1)] dX12_otherEnd_28 (fun hs => m_Mo_fromOf hw ht ra1 hs hq5) ml_X12_445 cv_Mo_fromOf rfl (co := 12) rfl (by decide) ht rC_86 ⟨rfl, rfl⟩ ⟨Nat.le_of_ble_eq_true rfl, Nat.le_of_ble_eq_true rfl⟩ ⟨Nat.le_of_ble_eq_true rfl, Nat.le_of_ble_eq_true rfl⟩ (Nat.le_of_ble_eq_true rfl) rfl (fun hr5 hs5 => ?_)
      refine r_goto (tgt := 35) h dX12_otherEnd_31 (by decide) ?_
      exact r_ret1 hr dX12_otherEnd_35 hr5 hf
  · have hf := ite_nf hc2 hf
    refine r_aload_n h dX12_otherEnd_9 rfl 0 rfl ?_
    refine r_iload_n h dX12_otherEnd_10 rfl 1 rfl ?_
    obtain ⟨r6, s6, hq6, hf⟩ := ob_some hf
    refine r_callV1 h [.int (vI a1)] dX12_otherEnd_11 (fun hs => m_Mo_toOf hw ht ra1 hs hq6) ml_X12_448 cv_Mo_toOf rfl (co := 12) rfl (by decide) ht rC_86 ⟨rfl, rfl⟩ ⟨Nat.le_of_ble_eq_true rfl, Nat.le_of_ble_eq_true rfl⟩ ⟨Nat.le_of_ble_eq_true rfl, Nat.le_of_ble_eq_true rfl⟩ (Nat.le_of_ble_eq_true rfl) rfl (fun hr6 hs6 => ?_)
    refine r_goto (tgt := 35) h dX12_otherEnd_14 (by decide) ?_
    exact r_ret1 hr dX12_otherEnd_35 hr6 hf
set_option maxRecDepth 20000 in
theorem b_Mo_keepAct_51 {l : Launch} {D : va_G} {cs : Nat → ClassId} {aS aV : Nat} {A : Nat → Prop} {K : KT} {ad : Nat → Nat} {n : Nat} {nl : Nat → Nat → Bool} {out : Int × SS} (h : w_Cl l rm_Mo_keepAct D cs aS aV A cX12_keepAct 2 RX12 "keepAct" K) (hr : w_Rt 0 cX12_keepAct 0 0 (w_Po ad n nl out) K) (hw : w_WH n nl) (ht : 86 < n) : ∀ (fu : Nat) (x1 : Int) (s0 : SS), rI x1 → l_Mo_keepAct_51 fu x1 s0 = some out → K ad n nl 0 0 51 [(0, .ref (ad 86)), (1, .int (vI x1))] [] s0 := by
  intro fu
  induction fu with
  | zero =>
    intro x1 s0 rx1 hf
    rw [l_Mo_keepAct_51] at hf
    cases hf
  | succ fu ih =>
    intro x1 s0 rx1 hf
    rw [l_Mo_keepAct_51] at hf
    refine r_rS h (fun hs0 => ?_)
    refine r_iload_n h dX12_keepAct_51 rfl 1 rfl ?_
    refine r_bipush h dX12_keepAct_52 (by decide) ?_
    refine r_icmp_ge (tgt := 83) h dX12_keepAct_54 (by decide) rx1 (rIc rfl) (fun hc1 => ?_) (fun hc1 => ?_)
    · have hf := ite_t hc1 hf
      refine r_aload_n h dX12_keepAct_83 rfl 0 rfl ?_
      refine r_dup h dX12_keepAct_84 rfl ?_
      refine g_X12_454 h dX12_keepAct_85 ht rC_86 ?_
      refine r_iconst h dX12_keepAct_88 ?_
      refine r_iadd h dX12_keepAct_89 ?_
      refine p_X12_454 h dX12_keepAct_90 ht rC_86 (rI_iw _) ?_
      refine r_os hf (fun s2 hf => ?_)
      refine r_rS h (fun hs2 => ?_)
      refine r_aload_n h dX12_keepAct_93 rfl 0 rfl ?_
      refine r_iconst h dX12_keepAct_94 ?_
      refine p_X12_457 h dX12_keepAct_95 ht rC_86 (rIc rfl) ?_
      refine r_os hf (fun s3 hf => ?_)
      refine r_rS h (fun hs3 => ?_)
      exact r_ret0 (x := 0) hr dX12_keepAct_98 hf
    · have hf := ite_f hc1 hf
      refine r_aload_n h dX12_keepAct_57 rfl 0 rfl ?_
      have hq4 := w_ref hw ht rC_86 (by decide) (k := 55) (by decide) rf_12_55
      refine g_X12_116 h dX12_keepAct_58 ht rC_86 hq4.1 ?_
      refine r_bipush h dX12_keepAct_61 (by decide) ?_
      refine r_aload_n h dX12_keepAct_63 rfl 0 rfl ?_
      refine g_X12_454 h dX12_keepAct_64 ht rC_86 ?_
      refine r_imul h dX12_keepAct_67 ?_
      refine r_iload_n h dX12_keepAct_68 rfl 1 rfl ?_
      refine r_iadd h dX12_keepAct_69 ?_
      refine r_aload_n h dX12_keepAct_70 rfl 0 rfl ?_
      have hq5 := w_ref hw ht rC_86 (by decide) (k := 52) (by decide) rf_12_52
      refine g_X12_110 h dX12_keepAct_71 ht rC_86 hq5.1 ?_
      refine r_iload_n h dX12_keepAct_74 rfl 1 rfl ?_
      obtain ⟨hi6, hf⟩ := oc_some hf
      refine r_iald h dX12_keepAct_75 hq5.2 rC_118 rx1 (N := 44) (by rw [rN_118]; rfl) (j := (x1).toNat) rfl hi6 ?_
      obtain ⟨hi7, hf⟩ := oc_some hf
      refine r_iast h dX12_keepAct_76 hq4.2 rC_120 (rI_iw _) (N := 1804) (by rw [rN_120]; rfl) (j := (iw ((iw (44 * (gi s0 86 56))) + x1)).toNat) rfl hi7 (hs0.1 _ _) ?_
      refine r_os hf (fun s8 hf => ?_)
      refine r_rS h (fun hs8 => ?_)
      refine r_iinc h [(1, .int (vI (iw (x1 + 1)))), (0, .ref (ad 86))] dX12_keepAct_77 1 rfl (by decide) rfl ?_
      refine r_goto (tgt := 51) h dX12_keepAct_80 (by decide) ?_
      refine r_sub h [1, 0] rfl ?_
      exact ih (iw (x1 + 1)) s8 (rI_iw _) hf
set_option maxRecDepth 20000 in
theorem b_Mo_keepAct_11 {l : Launch} {D : va_G} {cs : Nat → ClassId} {aS aV : Nat} {A : Nat → Prop} {K : KT} {ad : Nat → Nat} {n : Nat} {nl : Nat → Nat → Bool} {out : Int × SS} (h : w_Cl l rm_Mo_keepAct D cs aS aV A cX12_keepAct 2 RX12 "keepAct" K) (hr : w_Rt 0 cX12_keepAct 0 0 (w_Po ad n nl out) K) (hw : w_WH n nl) (ht : 86 < n) : ∀ (fu : Nat) (x1 : Int) (s0 : SS), rI x1 → l_Mo_keepAct_11 fu x1 s0 = some out → K ad n nl 0 0 11 [(0, .ref (ad 86)), (1, .int (vI x1))] [] s0 := by
  intro fu
  induction fu with
  | zero =>
    intro x1 s0 rx1 hf
    rw [l_Mo_keepAct_11] at hf
    cases hf
  | succ fu ih =>
    intro x1 s0 rx1 hf
    rw [l_Mo_keepAct_11] at hf
    refine r_rS h (fun hs0 => ?_)
    refine r_iload_n h dX12_keepAct_11 rfl 1 rfl ?_
    refine r_sipush h dX12_keepAct_12 (by decide) ?_
    refine r_icmp_ge (tgt := 39) h dX12_keepAct_15 (by decide) rx1 (rIc rfl) (fun hc1 => ?_) (fun hc1 => ?_)
    · have hf := ite_t hc1 hf
      refine r_aload_n h dX12_keepAct_39 rfl 0 rfl ?_
      refine r_dup h dX12_keepAct_40 rfl ?_
      refine g_X12_454 h dX12_keepAct_41 ht rC_86 ?_
      refine r_iconst h dX12_keepAct_44 ?_
      refine r_isub h dX12_keepAct_45 ?_
      refine p_X12_454 h dX12_keepAct_46 ht rC_86 (rI_iw _) ?_
      refine r_os hf (fun s2 hf => ?_)
      refine r_rS h (fun hs2 => ?_)
      refine r_iconst h dX12_keepAct_49 ?_
      refine r_istore_n h [(1, .int (vI 0)), (0, .ref (ad 86))] dX12_keepAct_50 rfl (by decide) rfl ?_
      refine r_sub h [1, 0] rfl ?_
      exact b_Mo_keepAct_51 h hr hw ht FU 0 s2 (rIc rfl) hf
    · have hf := ite_f hc1 hf
      refine r_aload_n h dX12_keepAct_18 rfl 0 rfl ?_
      have hq3 := w_ref hw ht rC_86 (by decide) (k := 55) (by decide) rf_12_55
      refine g_X12_116 h dX12_keepAct_19 ht rC_86 hq3.1 ?_
      refine r_iload_n h dX12_keepAct_22 rfl 1 rfl ?_
      refine r_aload_n h dX12_keepAct_23 rfl 0 rfl ?_
      have hq4 := w_ref hw ht rC_86 (by decide) (k := 55) (by decide) rf_12_55
      refine g_X12_116 h dX12_keepAct_24 ht rC_86 hq4.1 ?_
      refine r_iload_n h dX12_keepAct_27 rfl 1 rfl ?_
      refine r_bipush h dX12_keepAct_28 (by decide) ?_
      refine r_iadd h dX12_keepAct_30 ?_
      obtain ⟨hi5, hf⟩ := oc_some hf
      refine r_iald h dX12_keepAct_31 hq4.2 rC_120 (rI_iw _) (N := 1804) (by rw [rN_120]; rfl) (j := (iw (x1 + 44)).toNat) rfl hi5 ?_
      obtain ⟨hi6, hf⟩ := oc_some hf
      refine r_iast h dX12_keepAct_32 hq3.2 rC_120 rx1 (N := 1804) (by rw [rN_120]; rfl) (j := (x1).toNat) rfl hi6 (hs0.1 _ _) ?_
      refine r_os hf (fun s7 hf => ?_)
      refine r_rS h (fun hs7 => ?_)
      refine r_iinc h [(1, .int (vI (iw (x1 + 1)))), (0, .ref (ad 86))] dX12_keepAct_33 1 rfl (by decide) rfl ?_
      refine r_goto (tgt := 11) h dX12_keepAct_36 (by decide) ?_
      refine r_sub h [1, 0] rfl ?_
      exact ih (iw (x1 + 1)) s7 (rI_iw _) hf
set_option maxRecDepth 20000 in
theorem m_Mo_keepAct {l : Launch} {D : va_G} {cs : Nat → ClassId} {aS aV : Nat} {A : Nat → Prop} {ad : Nat → Nat} {n : Nat} {nl : Nat → Nat → Bool} {out : Int × SS} (hw : w_WH n nl) (ht : 86 < n) {s0 : SS} (hs0 : rS s0) (hf : f_Mo_keepAct s0 = some out) : w_MC l D cs aS aV A yX12_keepAct cX12_keepAct 2 0 rm_Mo_keepAct ad n nl [.ref (ad 86)] s0 (w_Po ad n nl out) := by
  refine w_MC_of (by decide +kernel) (by decide) hs0 (Nat.le_of_ble_eq_true rfl) (fun K h hr => ?_)
  refine r_lv (lv' := [(0, .ref (ad 86))]) rfl ?_
  unfold f_Mo_keepAct at hf
  refine r_rS h (fun hs0 => ?_)
  refine r_aload_n h dX12_keepAct_0 rfl 0 rfl ?_
  refine g_X12_454 h dX12_keepAct_1 ht rC_86 ?_
  refine r_bipush h dX12_keepAct_4 (by decide) ?_
  refine r_icmp_ne (tgt := 49) h dX12_keepAct_6 (by decide) (hs0.1 _ _) (rIc rfl) (fun hc1 => ?_) (fun hc1 => ?_)
  · have hf := ite_f hc1 hf
    refine r_iconst h dX12_keepAct_49 ?_
    refine r_istore_n h [(1, .int (vI 0)), (0, .ref (ad 86))] dX12_keepAct_50 rfl (by decide) rfl ?_
    refine r_sub h [1, 0] rfl ?_
    exact b_Mo_keepAct_51 h hr hw ht FU 0 s0 (rIc rfl) hf
  · have hf := ite_nf hc1 hf
    refine r_iconst h dX12_keepAct_9 ?_
    refine r_istore_n h [(1, .int (vI 0)), (0, .ref (ad 86))] dX12_keepAct_10 rfl (by decide) rfl ?_
    refine r_sub h [1, 0] rfl ?_
    exact b_Mo_keepAct_11 h hr hw ht FU 0 s0 (rIc rfl) hf
set_option maxRecDepth 20000 in
theorem b_Mo_exchange_2 {l : Launch} {D : va_G} {cs : Nat → ClassId} {aS aV : Nat} {A : Nat → Prop} {K : KT} {ad : Nat → Nat} {n : Nat} {nl : Nat → Nat → Bool} {out : Int × SS} (h : w_Cl l rm_Mo_exchange D cs aS aV A cX12_exchange 3 RX12 "exchange" K) (hr : w_Rt 0 cX12_exchange 0 0 (w_Po ad n nl out) K) (hw : w_WH n nl) (ht : 86 < n) : ∀ (fu : Nat) (x1 : Int) (s0 : SS), rI x1 → l_Mo_exchange_2 fu x1 s0 = some out → K ad n nl 0 0 2 [(0, .ref (ad 86)), (1, .int (vI x1))] [] s0 := by
  intro fu
  induction fu with
  | zero =>
    intro x1 s0 rx1 hf
    rw [l_Mo_exchange_2] at hf
    cases hf
  | succ fu ih =>
    intro x1 s0 rx1 hf
    rw [l_Mo_exchange_2] at hf
    refine r_rS h (fun hs0 => ?_)
    refine r_iload_n h dX12_exchange_2 rfl 1 rfl ?_
    refine r_bipush h dX12_exchange_3 (by decide) ?_
    refine r_icmp_ge (tgt := 56) h dX12_exchange_5 (by decide) rx1 (rIc rfl) (fun hc1 => ?_) (fun hc1 => ?_)
    · have hf := ite_t hc1 hf
      exact r_ret0 (x := 0) hr dX12_exchange_56 hf
    · have hf := ite_f hc1 hf
      refine r_aload_n h dX12_exchange_8 rfl 0 rfl ?_
      have hq2 := w_ref hw ht rC_86 (by decide) (k := 55) (by decide) rf_12_55
      refine g_X12_116 h dX12_exchange_9 ht rC_86 hq2.1 ?_
      refine r_bipush h dX12_exchange_12 (by decide) ?_
      refine r_aload_n h dX12_exchange_14 rfl 0 rfl ?_
      refine g_X12_454 h dX12_exchange_15 ht rC_86 ?_
      refine r_imul h dX12_exchange_18 ?_
      refine r_iload_n h dX12_exchange_19 rfl 1 rfl ?_
      refine r_iadd h dX12_exchange_20 ?_
      obtain ⟨hi3, hf⟩ := oc_some hf
      refine r_iald h dX12_exchange_21 hq2.2 rC_120 (rI_iw _) (N := 1804) (by rw [rN_120]; rfl) (j := (iw ((iw (44 * (gi s0 86 56))) + x1)).toNat) rfl hi3 ?_
      refine r_ol hf (hs0.1 _ _) (fun x4_ rx4_ hf => ?_)
      refine r_istore_n h [(2, .int (vI x4_)), (0, .ref (ad 86)), (1, .int (vI x1))] dX12_exchange_22 rfl (by decide) rfl ?_
      refine r_aload_n h dX12_exchange_23 rfl 1 rfl ?_
      have hq5 := w_ref hw ht rC_86 (by decide) (k := 55) (by decide) rf_12_55
      refine g_X12_116 h dX12_exchange_24 ht rC_86 hq5.1 ?_
      refine r_bipush h dX12_exchange_27 (by decide) ?_
      refine r_aload_n h dX12_exchange_29 rfl 1 rfl ?_
      refine g_X12_454 h dX12_exchange_30 ht rC_86 ?_
      refine r_imul h dX12_exchange_33 ?_
      refine r_iload_n h dX12_exchange_34 rfl 2 rfl ?_
      refine r_iadd h dX12_exchange_35 ?_
      refine r_aload_n h dX12_exchange_36 rfl 1 rfl ?_
      have hq6 := w_ref hw ht rC_86 (by decide) (k := 52) (by decide) rf_12_52
      refine g_X12_110 h dX12_exchange_37 ht rC_86 hq6.1 ?_
      refine r_iload_n h dX12_exchange_40 rfl 2 rfl ?_
      obtain ⟨hi7, hf⟩ := oc_some hf
      refine r_iald h dX12_exchange_41 hq6.2 rC_118 rx1 (N := 44) (by rw [rN_118]; rfl) (j := (x1).toNat) rfl hi7 ?_
      obtain ⟨hi8, hf⟩ := oc_some hf
      refine r_iast h dX12_exchange_42 hq5.2 rC_120 (rI_iw _) (N := 1804) (by rw [rN_120]; rfl) (j := (iw ((iw (44 * (gi s0 86 56))) + x1)).toNat) rfl hi8 (hs0.1 _ _) ?_
      refine r_os hf (fun s9 hf => ?_)
      refine r_rS h (fun hs9 => ?_)
      refine r_aload_n h dX12_exchange_43 rfl 1 rfl ?_
      have hq10 := w_ref hw ht rC_86 (by decide) (k := 52) (by decide) rf_12_52
      refine g_X12_110 h dX12_exchange_44 ht rC_86 hq10.1 ?_
      refine r_iload_n h dX12_exchange_47 rfl 2 rfl ?_
      refine r_iload_n h dX12_exchange_48 rfl 0 rfl ?_
      obtain ⟨hi11, hf⟩ := oc_some hf
      refine r_iast h dX12_exchange_49 hq10.2 rC_118 rx1 (N := 44) (by rw [rN_118]; rfl) (j := (x1).toNat) rfl hi11 rx4_ ?_
      refine r_os hf (fun s12 hf => ?_)
      refine r_rS h (fun hs12 => ?_)
      refine r_iinc h [(1, .int (vI (iw (x1 + 1)))), (2, .int (vI x4_)), (0, .ref (ad 86))] dX12_exchange_50 2 rfl (by decide) rfl ?_
      refine r_goto (tgt := 2) h dX12_exchange_53 (by decide) ?_
      refine r_sub h [2, 0] rfl ?_
      exact ih (iw (x1 + 1)) s12 (rI_iw _) hf
set_option maxRecDepth 20000 in
theorem m_Mo_exchange {l : Launch} {D : va_G} {cs : Nat → ClassId} {aS aV : Nat} {A : Nat → Prop} {ad : Nat → Nat} {n : Nat} {nl : Nat → Nat → Bool} {out : Int × SS} (hw : w_WH n nl) (ht : 86 < n) {s0 : SS} (hs0 : rS s0) (hf : f_Mo_exchange s0 = some out) : w_MC l D cs aS aV A yX12_exchange cX12_exchange 3 0 rm_Mo_exchange ad n nl [.ref (ad 86)] s0 (w_Po ad n nl out) := by
  refine w_MC_of (by decide +kernel) (by decide) hs0 (Nat.le_of_ble_eq_true rfl) (fun K h hr => ?_)
  refine r_lv (lv' := [(0, .ref (ad 86))]) rfl ?_
  unfold f_Mo_exchange at hf
  refine r_rS h (fun hs0 => ?_)
  refine r_iconst h dX12_exchange_0 ?_
  refine r_istore_n h [(1, .int (vI 0)), (0, .ref (ad 86))] dX12_exchange_1 rfl (by decide) rfl ?_
  refine r_sub h [1, 0] rfl ?_
  exact b_Mo_exchange_2 h hr hw ht FU 0 s0 (rIc rfl) hf
set_option maxRecDepth 20000 in
theorem m_Mo_doWalk {l : Launch} {D : va_G} {cs : Nat → ClassId} {aS aV : Nat} {A : Nat → Prop} {ad : Nat → Nat} {n : Nat} {nl : Nat → Nat → Bool} {out : Int × SS} (hw : w_WH n nl) (ht : 86 < n) {s0 : SS} (hs0 : rS s0) (hf : f_Mo_doWalk s0 = some out) : w_MC l D cs aS aV A yX12_doWalk cX12_doWalk 1 2 rm_Mo_doWalk ad n nl [.ref (ad 86)] s0 (w_Po ad n nl out) := by
  refine w_MC_of (by decide +kernel) (by decide) hs0 (Nat.le_of_ble_eq_true rfl) (fun K h hr => ?_)
  refine r_lv (lv' := [(0, .ref (ad 86))]) rfl ?_
  unfold f_Mo_doWalk at hf
  refine r_rS h (fun hs0 => ?_)
  refine r_aload_n h dX12_doWalk_0 rfl 0 rfl ?_
  have hq1 := w_ref hw ht rC_86 (by decide) (k := 52) (by decide) rf_12_52
  refine g_X12_110 h dX12_doWalk_1 ht rC_86 hq1.1 ?_
  refine r_bipush h dX12_doWalk_4 (by decide) ?_
  refine r_iald h dX12_doWalk_6 hq1.2 rC_118 (rIc rfl) (N := 44) (by rw [rN_118]; rfl) (j := 13) rfl (by decide) ?_
  refine r_if_lt (tgt := 14) h dX12_doWalk_7 (by decide) (hs0.1 _ _) (fun hc2 => ?_) (fun hc2 => ?_)
  · have hf := ite_t hc2 hf
    refine r_iconst h dX12_doWalk_14 ?_
    exact r_ret2 hr dX12_doWalk_15 (Or.inl rfl) hf
  · have hf := ite_f hc2 hf
    refine r_iconst h dX12_doWalk_10 ?_
    refine r_goto (tgt := 15) h dX12_doWalk_11 (by decide) ?_
    exact r_ret2 hr dX12_doWalk_15 (Or.inr rfl) hf
set_option maxRecDepth 20000 in
theorem m_Mo_setOut {l : Launch} {D : va_G} {cs : Nat → ClassId} {aS aV : Nat} {A : Nat → Prop} {ad : Nat → Nat} {n : Nat} {nl : Nat → Nat → Bool} {out : Int × SS} (hw : w_WH n nl) (ht : 86 < n) {a1 : Int} (ra1 : rI a1) {a2 : Int} (ra2 : rI a2) {a3 : Int} (ra3 : rI a3) {a4 : Int} (ra4 : rI a4) {s0 : SS} (hs0 : rS s0) (hf : f_Mo_setOut a1 a2 a3 a4 s0 = some out) : w_MC l D cs aS aV A yX12_setOut cX12_setOut 5 1 rm_Mo_setOut ad n nl [.ref (ad 86), .int (vI a1), .int (vI a2), .int (vI a3), .int (vI a4)] s0 (w_Po ad n nl out) := by
  refine w_MC_of (by decide +kernel) (by decide) hs0 (Nat.le_of_ble_eq_true rfl) (fun K h hr => ?_)
  refine r_lv (lv' := [(0, .ref (ad 86)), (1, .int (vI a1)), (2, .int (vI a2)), (3, .int (vI a3)), (4, .int (vI a4))]) rfl ?_
  unfold f_Mo_setOut at hf
  refine r_rS h (fun hs0 => ?_)
  refine r_aload_n h dX12_setOut_0 rfl 0 rfl ?_
  refine r_iload_n h dX12_setOut_1 rfl 1 rfl ?_
  refine r_iload_n h dX12_setOut_2 rfl 2 rfl ?_
  refine r_iload_n h dX12_setOut_3 rfl 3 rfl ?_
  obtain ⟨r1, s1, hq1, hf⟩ := ob_some hf
  refine r_callV2 h [.int (vI a1), .int (vI a2), .int (vI a3)] dX12_setOut_4 (fun hs => m_Mo_isCouple hw ht ra1 ra2 ra3 hs hq1) ml_X12_436 cv_Mo_isCouple rfl (co := 12) rfl (by decide) ht rC_86 ⟨rfl, rfl⟩ ⟨Nat.le_of_ble_eq_true rfl, Nat.le_of_ble_eq_true rfl⟩ ⟨Nat.le_of_ble_eq_true rfl, Nat.le_of_ble_eq_true rfl⟩ (Nat.le_of_ble_eq_true rfl) rfl (fun hr1 hs1 => ?_)
  refine r_if_eq (tgt := 19) h dX12_setOut_7 (by decide) (rI_b hr1) (fun hc2 => ?_) (fun hc2 => ?_)
  · have hf := ite_t hc2 hf
    refine r_iconst h dX12_setOut_19 ?_
    exact r_ret1 hr dX12_setOut_20 (rIc rfl) hf
  · have hf := ite_f hc2 hf
    refine r_aload_n h dX12_setOut_10 rfl 0 rfl ?_
    refine r_iload h dX12_setOut_11 4 rfl ?_
    obtain ⟨r3, s3, hq3, hf⟩ := ob_some hf
    refine r_callV2 h [.int (vI a4)] dX12_setOut_13 (fun hs => m_Mo_isPlace hw ht ra4 hs hq3) ml_X12_469 cv_Mo_isPlace rfl (co := 12) rfl (by decide) ht rC_86 ⟨rfl, rfl⟩ ⟨Nat.le_of_ble_eq_true rfl, Nat.le_of_ble_eq_true rfl⟩ ⟨Nat.le_of_ble_eq_true rfl, Nat.le_of_ble_eq_true rfl⟩ (Nat.le_of_ble_eq_true rfl) rfl (fun hr3 hs3 => ?_)
    refine r_if_ne (tgt := 21) h dX12_setOut_16 (by decide) (rI_b hr3) (fun hc4 => ?_) (fun hc4 => ?_)
    · have hf := ite_f hc4 hf
      refine r_aload_n h dX12_setOut_21 rfl 0 rfl ?_
      obtain ⟨r5, s5, hq5, hf⟩ := ob_some hf
      refine r_callV0 h [] dX12_setOut_22 (fun hs => m_Mo_keepAct hw ht hs hq5) ml_X12_472 cv_Mo_keepAct rfl (co := 12) rfl (by decide) ht rC_86 ⟨rfl, rfl⟩ ⟨Nat.le_of_ble_eq_true rfl, Nat.le_of_ble_eq_true rfl⟩ ⟨Nat.le_of_ble_eq_true rfl, Nat.le_of_ble_eq_true rfl⟩ (Nat.le_of_ble_eq_true rfl) rfl (fun hr5 hs5 => ?_)
      refine r_aload_n h dX12_setOut_25 rfl 0 rfl ?_
      refine r_aload_n h dX12_setOut_26 rfl 0 rfl ?_
      have hq6 := w_ref hw ht rC_86 (by decide) (k := 52) (by decide) rf_12_52
      refine g_X12_110 h dX12_setOut_27 ht rC_86 hq6.1 ?_
      refine r_iload_n h dX12_setOut_30 rfl 1 rfl ?_
      refine r_iload_n h dX12_setOut_31 rfl 2 rfl ?_
      refine r_iload_n h dX12_setOut_32 rfl 3 rfl ?_
      obtain ⟨r7, s7, hq7, hf⟩ := ob_some hf
      refine r_callV0 h [.ref (ad 118), .int (vI a1), .int (vI a2), .int (vI a3)] dX12_setOut_33 (fun hs => m_Mo_begin hw ht hq6.2 rC_118 ra1 ra2 ra3 hs hq7) ml_X12_424 cv_Mo_begin rfl (co := 12) rfl (by decide) ht rC_86 ⟨rfl, rfl⟩ ⟨Nat.le_of_ble_eq_true rfl, Nat.le_of_ble_eq_true rfl⟩ ⟨Nat.le_of_ble_eq_true rfl, Nat.le_of_ble_eq_true rfl⟩ (Nat.le_of_ble_eq_true rfl) rfl (fun hr7 hs7 => ?_)
      refine r_aload_n h dX12_setOut_36 rfl 0 rfl ?_
      have hq8 := w_ref hw ht rC_86 (by decide) (k := 52) (by decide) rf_12_52
      refine g_X12_110 h dX12_setOut_37 ht rC_86 hq8.1 ?_
      refine r_bipush h dX12_setOut_40 (by decide) ?_
      refine r_iload h dX12_setOut_42 4 rfl ?_
      refine r_iast h dX12_setOut_44 hq8.2 rC_118 (rIc rfl) (N := 44) (by rw [rN_118]; rfl) (j := 16) rfl (by decide) ra4 ?_
      refine r_os hf (fun s9 hf => ?_)
      refine r_rS h (fun hs9 => ?_)
      refine r_aload_n h dX12_setOut_45 rfl 0 rfl ?_
      have hq10 := w_ref hw ht rC_86 (by decide) (k := 52) (by decide) rf_12_52
      refine g_X12_110 h dX12_setOut_46 ht rC_86 hq10.1 ?_
      refine r_bipush h dX12_setOut_49 (by decide) ?_
      refine r_iconst h dX12_setOut_51 ?_
      refine r_iast h dX12_setOut_52 hq10.2 rC_118 (rIc rfl) (N := 44) (by rw [rN_118]; rfl) (j := 17) rfl (by decide) (rIc rfl) ?_
      refine r_os hf (fun s11 hf => ?_)
      refine r_rS h (fun hs11 => ?_)
      refine r_aload_n h dX12_setOut_53 rfl 0 rfl ?_
      have hq12 := w_ref hw ht rC_86 (by decide) (k := 52) (by decide) rf_12_52
      refine g_X12_110 h dX12_setOut_54 ht rC_86 hq12.1 ?_
      refine r_bipush h dX12_setOut_57 (by decide) ?_
      refine r_iconst h dX12_setOut_59 ?_
      refine r_iast h dX12_setOut_60 hq12.2 rC_118 (rIc rfl) (N := 44) (by rw [rN_118]; rfl) (j := 18) rfl (by decide) (rIc rfl) ?_
      refine r_os hf (fun s13 hf => ?_)
      refine r_rS h (fun hs13 => ?_)
      refine r_iconst h dX12_setOut_61 ?_
      exact r_ret1 hr dX12_setOut_62 (rIc rfl) hf
    · have hf := ite_nf hc4 hf
      refine r_iconst h dX12_setOut_19 ?_
      exact r_ret1 hr dX12_setOut_20 (rIc rfl) hf
set_option maxRecDepth 20000 in
theorem m_Mo_take {l : Launch} {D : va_G} {cs : Nat → ClassId} {aS aV : Nat} {A : Nat → Prop} {ad : Nat → Nat} {n : Nat} {nl : Nat → Nat → Bool} {out : Int × SS} (hw : w_WH n nl) (ht : 86 < n) {a1 : Int} (ra1 : rI a1) {s0 : SS} (hs0 : rS s0) (hf : f_Mo_take a1 s0 = some out) : w_MC l D cs aS aV A yX12_take cX12_take 2 1 rm_Mo_take ad n nl [.ref (ad 86), .int (vI a1)] s0 (w_Po ad n nl out) := by
  refine w_MC_of (by decide +kernel) (by decide) hs0 (Nat.le_of_ble_eq_true rfl) (fun K h hr => ?_)
  refine r_lv (lv' := [(0, .ref (ad 86)), (1, .int (vI a1))]) rfl ?_
  unfold f_Mo_take at hf
  refine r_rS h (fun hs0 => ?_)
  refine r_aload_n h dX12_take_0 rfl 0 rfl ?_
  obtain ⟨r1, s1, hq1, hf⟩ := ob_some hf
  refine r_callV2 h [] dX12_take_1 (fun hs => m_Mo_doWalk hw ht hs hq1) ml_X12_475 cv_Mo_doWalk rfl (co := 12) rfl (by decide) ht rC_86 ⟨rfl, rfl⟩ ⟨Nat.le_of_ble_eq_true rfl, Nat.le_of_ble_eq_true rfl⟩ ⟨Nat.le_of_ble_eq_true rfl, Nat.le_of_ble_eq_true rfl⟩ (Nat.le_of_ble_eq_true rfl) rfl (fun hr1 hs1 => ?_)
  refine r_if_eq (tgt := 50) h dX12_take_4 (by decide) (rI_b hr1) (fun hc2 => ?_) (fun hc2 => ?_)
  · have hf := ite_t hc2 hf
    refine r_iconst h dX12_take_50 ?_
    exact r_ret1 hr dX12_take_51 (rIc rfl) hf
  · have hf := ite_f hc2 hf
    refine r_aload_n h dX12_take_7 rfl 0 rfl ?_
    refine r_iload_n h dX12_take_8 rfl 1 rfl ?_
    obtain ⟨r3, s3, hq3, hf⟩ := ob_some hf
    refine r_callV2 h [.int (vI a1)] dX12_take_9 (fun hs => m_Mo_isWay hw ht ra1 hs hq3) ml_X12_442 cv_Mo_isWay rfl (co := 12) rfl (by decide) ht rC_86 ⟨rfl, rfl⟩ ⟨Nat.le_of_ble_eq_true rfl, Nat.le_of_ble_eq_true rfl⟩ ⟨Nat.le_of_ble_eq_true rfl, Nat.le_of_ble_eq_true rfl⟩ (Nat.le_of_ble_eq_true rfl) rfl (fun hr3 hs3 => ?_)
    refine r_if_eq (tgt := 50) h dX12_take_12 (by decide) (rI_b hr3) (fun hc4 => ?_) (fun hc4 => ?_)
    · have hf := ite_t hc4 hf
      refine r_iconst h dX12_take_50 ?_
      exact r_ret1 hr dX12_take_51 (rIc rfl) hf
    · have hf := ite_f hc4 hf
      refine r_aload_n h dX12_take_15 rfl 0 rfl ?_
      have hq5 := w_ref hw ht rC_86 (by decide) (k := 52) (by decide) rf_12_52
      refine g_X12_110 h dX12_take_16 ht rC_86 hq5.1 ?_
      refine r_bipush h dX12_take_19 (by decide) ?_
      refine r_iald h dX12_take_21 hq5.2 rC_118 (rIc rfl) (N := 44) (by rw [rN_118]; rfl) (j := 17) rfl (by decide) ?_
      refine r_if_ge (tgt := 50) h dX12_take_22 (by decide) (hs3.1 _ _) (fun hc6 => ?_) (fun hc6 => ?_)
      · have hf := ite_t hc6 hf
        refine r_iconst h dX12_take_50 ?_
        exact r_ret1 hr dX12_take_51 (rIc rfl) hf
      · have hf := ite_f hc6 hf
        refine r_aload_n h dX12_take_25 rfl 0 rfl ?_
        have hq7 := w_ref hw ht rC_86 (by decide) (k := 52) (by decide) rf_12_52
        refine g_X12_110 h dX12_take_26 ht rC_86 hq7.1 ?_
        obtain ⟨r8, s8, hq8, hf⟩ := ob_some hf
        refine r_callS2 h [.ref (ad 118)] dX12_take_29 (fun hs => m_Mo_isEnded hw hq7.2 rC_118 hs hq8) ml_X12_432 cv_Mo_isEnded rfl ⟨rfl, rfl⟩ ⟨Nat.le_of_ble_eq_true rfl, Nat.le_of_ble_eq_true rfl⟩ ⟨Nat.le_of_ble_eq_true rfl, Nat.le_of_ble_eq_true rfl⟩ (Nat.le_of_ble_eq_true rfl) rfl (fun hr8 hs8 => ?_)
        refine r_if_ne (tgt := 50) h dX12_take_32 (by decide) (rI_b hr8) (fun hc9 => ?_) (fun hc9 => ?_)
        · have hf := ite_f hc9 hf
          refine r_iconst h dX12_take_50 ?_
          exact r_ret1 hr dX12_take_51 (rIc rfl) hf
        · have hf := ite_nf hc9 hf
          refine r_aload_n h dX12_take_35 rfl 0 rfl ?_
          refine r_iload_n h dX12_take_36 rfl 1 rfl ?_
          refine r_aload_n h dX12_take_37 rfl 0 rfl ?_
          have hq10 := w_ref hw ht rC_86 (by decide) (k := 52) (by decide) rf_12_52
          refine g_X12_110 h dX12_take_38 ht rC_86 hq10.1 ?_
          refine r_bipush h dX12_take_41 (by decide) ?_
          refine r_iald h dX12_take_43 hq10.2 rC_118 (rIc rfl) (N := 44) (by rw [rN_118]; rfl) (j := 16) rfl (by decide) ?_
          obtain ⟨r11, s11, hq11, hf⟩ := ob_some hf
          refine r_callV1 h [.int (vI a1), .int (vI (gi s8 118 16))] dX12_take_44 (fun hs => m_Mo_otherEnd hw ht ra1 (hs8.1 _ _) hs hq11) ml_X12_478 cv_Mo_otherEnd rfl (co := 12) rfl (by decide) ht rC_86 ⟨rfl, rfl⟩ ⟨Nat.le_of_ble_eq_true rfl, Nat.le_of_ble_eq_true rfl⟩ ⟨Nat.le_of_ble_eq_true rfl, Nat.le_of_ble_eq_true rfl⟩ (Nat.le_of_ble_eq_true rfl) rfl (fun hr11 hs11 => ?_)
          refine r_if_ge (tgt := 52) h dX12_take_47 (by decide) hr11 (fun hc12 => ?_) (fun hc12 => ?_)
          · have hf := ite_t hc12 hf
            refine r_aload_n h dX12_take_52 rfl 0 rfl ?_
            obtain ⟨r13, s13, hq13, hf⟩ := ob_some hf
            refine r_callV0 h [] dX12_take_53 (fun hs => m_Mo_keepAct hw ht hs hq13) ml_X12_472 cv_Mo_keepAct rfl (co := 12) rfl (by decide) ht rC_86 ⟨rfl, rfl⟩ ⟨Nat.le_of_ble_eq_true rfl, Nat.le_of_ble_eq_true rfl⟩ ⟨Nat.le_of_ble_eq_true rfl, Nat.le_of_ble_eq_true rfl⟩ (Nat.le_of_ble_eq_true rfl) rfl (fun hr13 hs13 => ?_)
            refine r_aload_n h dX12_take_56 rfl 0 rfl ?_
            have hq14 := w_ref hw ht rC_86 (by decide) (k := 52) (by decide) rf_12_52
            refine g_X12_110 h dX12_take_57 ht rC_86 hq14.1 ?_
            refine r_bipush h dX12_take_60 (by decide) ?_
            refine r_iload_n h dX12_take_62 rfl 1 rfl ?_
            refine r_iast h dX12_take_63 hq14.2 rC_118 (rIc rfl) (N := 44) (by rw [rN_118]; rfl) (j := 17) rfl (by decide) ra1 ?_
            refine r_os hf (fun s15 hf => ?_)
            refine r_rS h (fun hs15 => ?_)
            refine r_aload_n h dX12_take_64 rfl 0 rfl ?_
            have hq16 := w_ref hw ht rC_86 (by decide) (k := 52) (by decide) rf_12_52
            refine g_X12_110 h dX12_take_65 ht rC_86 hq16.1 ?_
            refine r_bipush h dX12_take_68 (by decide) ?_
            refine r_iconst h dX12_take_70 ?_
            refine r_iast h dX12_take_71 hq16.2 rC_118 (rIc rfl) (N := 44) (by rw [rN_118]; rfl) (j := 18) rfl (by decide) (rIc rfl) ?_
            refine r_os hf (fun s17 hf => ?_)
            refine r_rS h (fun hs17 => ?_)
            refine r_aload_n h dX12_take_72 rfl 0 rfl ?_
            refine r_iload_n h dX12_take_73 rfl 1 rfl ?_
            obtain ⟨r18, s18, hq18, hf⟩ := ob_some hf
            refine r_callV1 h [.int (vI a1)] dX12_take_74 (fun hs => m_Mo_milesOf hw ht ra1 hs hq18) ml_X12_451 cv_Mo_milesOf rfl (co := 12) rfl (by decide) ht rC_86 ⟨rfl, rfl⟩ ⟨Nat.le_of_ble_eq_true rfl, Nat.le_of_ble_eq_true rfl⟩ ⟨Nat.le_of_ble_eq_true rfl, Nat.le_of_ble_eq_true rfl⟩ (Nat.le_of_ble_eq_true rfl) rfl (fun hr18 hs18 => ?_)
            exact r_ret1 hr dX12_take_77 hr18 hf
          · have hf := ite_f hc12 hf
            refine r_iconst h dX12_take_50 ?_
            exact r_ret1 hr dX12_take_51 (rIc rfl) hf
set_option maxRecDepth 20000 in
theorem b_Mo_words_122 {l : Launch} {D : va_G} {cs : Nat → ClassId} {aS aV : Nat} {A : Nat → Prop} {K : KT} {ad : Nat → Nat} {n : Nat} {nl : Nat → Nat → Bool} {out : Int × SS} (h : w_Cl l rm_Mo_words D cs aS aV A cX12_words 6 RX12 "words" K) (hr : w_Rt 1 cX12_words 0 0 (w_Po ad n nl out) K) (hw : w_WH n nl) (ht : 86 < n) (x1 : Int) (x2 : Int) (x4 : Int) (x5 : Int) (z2 : Int) (z3 : Int) (self25 : Int → SS → OO) (hself25 : ∀ (x2 : Int) (τ : SS), rI x2 → self25 x2 τ = some out → K ad n nl 0 0 25 [(0, .ref (ad 86)), (1, .int (vI x1)), (2, .int (vI x2))] [] τ) (s0 : SS) (rx1 : rI x1) (rx2 : rI x2) (rx4 : rI x4) (rx5 : rI x5) (rz2 : rI z2) (rz3 : rI z3) (hf : j_Mo_words_122 self25 x1 x2 x4 x5 z2 z3 s0 = some out) : K ad n nl 0 0 122 [(0, .ref (ad 86)), (1, .int (vI x1)), (2, .int (vI x2)), (4, .int (vI x4)), (5, .int (vI x5))] [.int (vI z3), .int (vI z2), .ref (ad 118), .ref (ad 86)] s0 := by
  unfold j_Mo_words_122 at hf
  have q118_0 := w_ref hw ht rC_86 (by decide) (k := 52) (by decide) rf_12_52
  refine r_rS h (fun hs0 => ?_)
  obtain ⟨r1, s1, hq1, hf⟩ := ob_some hf
  refine r_callV0 h [.ref (ad 118), .int (vI z2), .int (vI z3)] dX12_words_122 (fun hs => m_Mo_say hw ht q118_0.2 rC_118 rz2 rz3 hs hq1) ml_X12_428 cv_Mo_say rfl (co := 12) rfl (by decide) ht rC_86 ⟨rfl, rfl⟩ ⟨Nat.le_of_ble_eq_true rfl, Nat.le_of_ble_eq_true rfl⟩ ⟨Nat.le_of_ble_eq_true rfl, Nat.le_of_ble_eq_true rfl⟩ (Nat.le_of_ble_eq_true rfl) rfl (fun hr1 hs1 => ?_)
  refine r_iinc h [(2, .int (vI (iw (x2 + 1)))), (0, .ref (ad 86)), (1, .int (vI x1)), (4, .int (vI x4)), (5, .int (vI x5))] dX12_words_125 2 rfl (by decide) rfl ?_
  refine r_iload h dX12_words_128 3 rfl ?_
  refine r_if_ne (tgt := 136) h dX12_words_130 (by decide) rx4 (fun hc2 => ?_) (fun hc2 => ?_)
  · have hf := ite_f hc2 hf
    refine r_aload_n h dX12_words_136 rfl 1 rfl ?_
    have hq3 := w_ref hw ht rC_86 (by decide) (k := 52) (by decide) rf_12_52
    refine g_X12_110 h dX12_words_137 ht rC_86 hq3.1 ?_
    refine r_bipush h dX12_words_140 (by decide) ?_
    refine r_iload h dX12_words_142 4 rfl ?_
    refine r_iast h dX12_words_144 hq3.2 rC_118 (rIc rfl) (N := 44) (by rw [rN_118]; rfl) (j := 16) rfl (by decide) rx5 ?_
    refine r_os hf (fun s4 hf => ?_)
    refine r_rS h (fun hs4 => ?_)
    refine r_aload_n h dX12_words_145 rfl 1 rfl ?_
    have hq5 := w_ref hw ht rC_86 (by decide) (k := 52) (by decide) rf_12_52
    refine g_X12_110 h dX12_words_146 ht rC_86 hq5.1 ?_
    refine r_bipush h dX12_words_149 (by decide) ?_
    refine r_iconst h dX12_words_151 ?_
    refine r_iast h dX12_words_152 hq5.2 rC_118 (rIc rfl) (N := 44) (by rw [rN_118]; rfl) (j := 17) rfl (by decide) (rIc rfl) ?_
    refine r_os hf (fun s6 hf => ?_)
    refine r_rS h (fun hs6 => ?_)
    refine r_aload_n h dX12_words_153 rfl 1 rfl ?_
    have hq7 := w_ref hw ht rC_86 (by decide) (k := 52) (by decide) rf_12_52
    refine g_X12_110 h dX12_words_154 ht rC_86 hq7.1 ?_
    refine r_bipush h dX12_words_157 (by decide) ?_
    refine r_iconst h dX12_words_159 ?_
    refine r_iast h dX12_words_160 hq7.2 rC_118 (rIc rfl) (N := 44) (by rw [rN_118]; rfl) (j := 18) rfl (by decide) (rIc rfl) ?_
    refine r_os hf (fun s8 hf => ?_)
    refine r_rS h (fun hs8 => ?_)
    refine r_goto (tgt := 25) h dX12_words_161 (by decide) ?_
    refine r_sub h [1, 2, 0] rfl ?_
    exact hself25 (iw (x2 + 1)) s8 (rI_iw _) hf
  · have hf := ite_nf hc2 hf
    refine r_goto (tgt := 25) h dX12_words_133 (by decide) ?_
    refine r_sub h [1, 2, 0] rfl ?_
    exact hself25 (iw (x2 + 1)) s1 (rI_iw _) hf
set_option maxRecDepth 20000 in
theorem b_Mo_words_89 {l : Launch} {D : va_G} {cs : Nat → ClassId} {aS aV : Nat} {A : Nat → Prop} {K : KT} {ad : Nat → Nat} {n : Nat} {nl : Nat → Nat → Bool} {out : Int × SS} (h : w_Cl l rm_Mo_words D cs aS aV A cX12_words 6 RX12 "words" K) (hr : w_Rt 1 cX12_words 0 0 (w_Po ad n nl out) K) (hw : w_WH n nl) (ht : 86 < n) (x1 : Int) (x2 : Int) (x3 : Int) (z0 : Int) (self25 : Int → SS → OO) (hself25 : ∀ (x2 : Int) (τ : SS), rI x2 → self25 x2 τ = some out → K ad n nl 0 0 25 [(0, .ref (ad 86)), (1, .int (vI x1)), (2, .int (vI x2))] [] τ) (s0 : SS) (rx1 : rI x1) (rx2 : rI x2) (rx3 : rI x3) (rz0 : rI z0) (hf : j_Mo_words_89 self25 x1 x2 x3 z0 s0 = some out) : K ad n nl 0 0 89 [(0, .ref (ad 86)), (1, .int (vI x1)), (2, .int (vI x2)), (3, .int (vI x3))] [.int (vI z0)] s0 := by
  unfold j_Mo_words_89 at hf
  refine r_rS h (fun hs0 => ?_)
  refine r_istore h [(4, .int (vI z0)), (0, .ref (ad 86)), (1, .int (vI x1)), (2, .int (vI x2)), (3, .int (vI x3))] dX12_words_89 (by decide) rfl ?_
  refine r_aload_n h dX12_words_91 rfl 1 rfl ?_
  refine r_iload_n h dX12_words_92 rfl 4 rfl ?_
  refine r_aload_n h dX12_words_93 rfl 1 rfl ?_
  have hq1 := w_ref hw ht rC_86 (by decide) (k := 52) (by decide) rf_12_52
  refine g_X12_110 h dX12_words_94 ht rC_86 hq1.1 ?_
  refine r_bipush h dX12_words_97 (by decide) ?_
  refine r_iald h dX12_words_99 hq1.2 rC_118 (rIc rfl) (N := 44) (by rw [rN_118]; rfl) (j := 16) rfl (by decide) ?_
  obtain ⟨r2, s2, hq2, hf⟩ := ob_some hf
  refine r_callV1 h [.int (vI x3), .int (vI (gi s0 118 16))] dX12_words_100 (fun hs => m_Mo_otherEnd hw ht rx3 (hs0.1 _ _) hs hq2) ml_X12_478 cv_Mo_otherEnd rfl (co := 12) rfl (by decide) ht rC_86 ⟨rfl, rfl⟩ ⟨Nat.le_of_ble_eq_true rfl, Nat.le_of_ble_eq_true rfl⟩ ⟨Nat.le_of_ble_eq_true rfl, Nat.le_of_ble_eq_true rfl⟩ (Nat.le_of_ble_eq_true rfl) rfl (fun hr2 hs2 => ?_)
  refine r_istore h [(5, .int (vI r2)), (4, .int (vI z0)), (0, .ref (ad 86)), (1, .int (vI x1)), (2, .int (vI x2)), (3, .int (vI x3))] dX12_words_103 (by decide) rfl ?_
  refine r_aload_n h dX12_words_105 rfl 2 rfl ?_
  refine r_aload_n h dX12_words_106 rfl 2 rfl ?_
  have hq3 := w_ref hw ht rC_86 (by decide) (k := 52) (by decide) rf_12_52
  refine g_X12_110 h dX12_words_107 ht rC_86 hq3.1 ?_
  refine r_iload_n h dX12_words_110 rfl 5 rfl ?_
  refine r_iload h dX12_words_111 1 rfl ?_
  refine r_if_eq (tgt := 121) h dX12_words_113 (by decide) rz0 (fun hc4 => ?_) (fun hc4 => ?_)
  · have hf := ite_t hc4 hf
    refine r_iconst h dX12_words_121 ?_
    refine r_sub h [2, 3, 4, 1, 0] rfl ?_
    exact b_Mo_words_122 h hr hw ht x1 x2 z0 r2 x3 (-1) self25 hself25 s2 rx1 rx2 rz0 hr2 rx3 (rIc rfl) hf
  · have hf := ite_f hc4 hf
    refine r_iload h dX12_words_116 0 rfl ?_
    refine r_goto (tgt := 122) h dX12_words_118 (by decide) ?_
    refine r_sub h [2, 3, 4, 1, 0] rfl ?_
    exact b_Mo_words_122 h hr hw ht x1 x2 z0 r2 x3 r2 self25 hself25 s2 rx1 rx2 rz0 hr2 rx3 hr2 hf
set_option maxRecDepth 20000 in
theorem b_Mo_words_25 {l : Launch} {D : va_G} {cs : Nat → ClassId} {aS aV : Nat} {A : Nat → Prop} {K : KT} {ad : Nat → Nat} {n : Nat} {nl : Nat → Nat → Bool} {out : Int × SS} (h : w_Cl l rm_Mo_words D cs aS aV A cX12_words 6 RX12 "words" K) (hr : w_Rt 1 cX12_words 0 0 (w_Po ad n nl out) K) (hw : w_WH n nl) (ht : 86 < n) {y1 : Int} (ry1 : rI y1) : ∀ (fu : Nat) (x2 : Int) (s0 : SS), rI x2 → l_Mo_words_25 y1 fu x2 s0 = some out → K ad n nl 0 0 25 [(0, .ref (ad 86)), (1, .int (vI y1)), (2, .int (vI x2))] [] s0 := by
  intro fu
  induction fu with
  | zero =>
    intro x2 s0 rx2 hf
    rw [l_Mo_words_25] at hf
    cases hf
  | succ fu ih =>
    intro x2 s0 rx2 hf
    rw [l_Mo_words_25] at hf
    refine r_rS h (fun hs0 => ?_)
    refine r_iload_n h dX12_words_25 rfl 2 rfl ?_
    refine r_iload_n h dX12_words_26 rfl 1 rfl ?_
    refine r_icmp_ge (tgt := 164) h dX12_words_27 (by decide) rx2 ry1 (fun hc1 => ?_) (fun hc1 => ?_)
    · have hf := ite_t hc1 hf
      refine r_iload_n h dX12_words_164 rfl 2 rfl ?_
      exact r_ret1 hr dX12_words_165 rx2 hf
    · have hf := ite_f hc1 hf
      refine r_aload_n h dX12_words_30 rfl 0 rfl ?_
      have hq2 := w_ref hw ht rC_86 (by decide) (k := 52) (by decide) rf_12_52
      refine g_X12_110 h dX12_words_31 ht rC_86 hq2.1 ?_
      refine r_bipush h dX12_words_34 (by decide) ?_
      refine r_iald h dX12_words_36 hq2.2 rC_118 (rIc rfl) (N := 44) (by rw [rN_118]; rfl) (j := 17) rfl (by decide) ?_
      refine r_if_lt (tgt := 164) h dX12_words_37 (by decide) (hs0.1 _ _) (fun hc3 => ?_) (fun hc3 => ?_)
      · have hf := ite_t hc3 hf
        refine r_iload_n h dX12_words_164 rfl 2 rfl ?_
        exact r_ret1 hr dX12_words_165 rx2 hf
      · have hf := ite_f hc3 hf
        refine r_aload_n h dX12_words_40 rfl 0 rfl ?_
        have hq4 := w_ref hw ht rC_86 (by decide) (k := 52) (by decide) rf_12_52
        refine g_X12_110 h dX12_words_41 ht rC_86 hq4.1 ?_
        obtain ⟨r5, s5, hq5, hf⟩ := ob_some hf
        refine r_callS2 h [.ref (ad 118)] dX12_words_44 (fun hs => m_Mo_isEnded hw hq4.2 rC_118 hs hq5) ml_X12_432 cv_Mo_isEnded rfl ⟨rfl, rfl⟩ ⟨Nat.le_of_ble_eq_true rfl, Nat.le_of_ble_eq_true rfl⟩ ⟨Nat.le_of_ble_eq_true rfl, Nat.le_of_ble_eq_true rfl⟩ (Nat.le_of_ble_eq_true rfl) rfl (fun hr5 hs5 => ?_)
        refine r_if_ne (tgt := 164) h dX12_words_47 (by decide) (rI_b hr5) (fun hc6 => ?_) (fun hc6 => ?_)
        · have hf := ite_f hc6 hf
          refine r_iload_n h dX12_words_164 rfl 2 rfl ?_
          exact r_ret1 hr dX12_words_165 rx2 hf
        · have hf := ite_nf hc6 hf
          refine r_aload_n h dX12_words_50 rfl 0 rfl ?_
          have hq7 := w_ref hw ht rC_86 (by decide) (k := 52) (by decide) rf_12_52
          refine g_X12_110 h dX12_words_51 ht rC_86 hq7.1 ?_
          refine r_bipush h dX12_words_54 (by decide) ?_
          refine r_iald h dX12_words_56 hq7.2 rC_118 (rIc rfl) (N := 44) (by rw [rN_118]; rfl) (j := 17) rfl (by decide) ?_
          refine r_ol hf (hs5.1 _ _) (fun x8_ rx8_ hf => ?_)
          refine r_istore_n h [(3, .int (vI x8_)), (0, .ref (ad 86)), (1, .int (vI y1)), (2, .int (vI x2))] dX12_words_57 rfl (by decide) rfl ?_
          refine r_aload_n h dX12_words_58 rfl 1 rfl ?_
          have hq9 := w_ref hw ht rC_86 (by decide) (k := 52) (by decide) rf_12_52
          refine g_X12_110 h dX12_words_59 ht rC_86 hq9.1 ?_
          refine r_bipush h dX12_words_62 (by decide) ?_
          refine r_dup2a h dX12_words_64 rfl rfl ?_
          refine r_iald h dX12_words_65 hq9.2 rC_118 (rIc rfl) (N := 44) (by rw [rN_118]; rfl) (j := 18) rfl (by decide) ?_
          refine r_iconst h dX12_words_66 ?_
          refine r_iadd h dX12_words_67 ?_
          refine r_iast h dX12_words_68 hq9.2 rC_118 (rIc rfl) (N := 44) (by rw [rN_118]; rfl) (j := 18) rfl (by decide) (rI_iw _) ?_
          refine r_os hf (fun s10 hf => ?_)
          refine r_rS h (fun hs10 => ?_)
          refine r_aload_n h dX12_words_69 rfl 1 rfl ?_
          have hq11 := w_ref hw ht rC_86 (by decide) (k := 52) (by decide) rf_12_52
          refine g_X12_110 h dX12_words_70 ht rC_86 hq11.1 ?_
          refine r_bipush h dX12_words_73 (by decide) ?_
          refine r_iald h dX12_words_75 hq11.2 rC_118 (rIc rfl) (N := 44) (by rw [rN_118]; rfl) (j := 18) rfl (by decide) ?_
          refine r_aload_n h dX12_words_76 rfl 1 rfl ?_
          refine r_iload_n h dX12_words_77 rfl 0 rfl ?_
          obtain ⟨r12, s12, hq12, hf⟩ := ob_some hf
          refine r_callV1 h [.int (vI x8_)] dX12_words_78 (fun hs => m_Mo_milesOf hw ht rx8_ hs hq12) ml_X12_451 cv_Mo_milesOf rfl (co := 12) rfl (by decide) ht rC_86 ⟨rfl, rfl⟩ ⟨Nat.le_of_ble_eq_true rfl, Nat.le_of_ble_eq_true rfl⟩ ⟨Nat.le_of_ble_eq_true rfl, Nat.le_of_ble_eq_true rfl⟩ (Nat.le_of_ble_eq_true rfl) rfl (fun hr12 hs12 => ?_)
          refine r_icmp_ne (tgt := 88) h dX12_words_81 (by decide) (hs10.1 _ _) hr12 (fun hc13 => ?_) (fun hc13 => ?_)
          · have hf := ite_f hc13 hf
            refine r_iconst h dX12_words_88 ?_
            refine r_sub h [1, 2, 3, 0] rfl ?_
            exact b_Mo_words_89 h hr hw ht y1 x2 x8_ 0 (l_Mo_words_25 y1 fu) ih s12 ry1 rx2 rx8_ (rIc rfl) hf
          · have hf := ite_nf hc13 hf
            refine r_iconst h dX12_words_84 ?_
            refine r_goto (tgt := 89) h dX12_words_85 (by decide) ?_
            refine r_sub h [1, 2, 3, 0] rfl ?_
            exact b_Mo_words_89 h hr hw ht y1 x2 x8_ 1 (l_Mo_words_25 y1 fu) ih s12 ry1 rx2 rx8_ (rIc rfl) hf
set_option maxRecDepth 20000 in
theorem m_Mo_words {l : Launch} {D : va_G} {cs : Nat → ClassId} {aS aV : Nat} {A : Nat → Prop} {ad : Nat → Nat} {n : Nat} {nl : Nat → Nat → Bool} {out : Int × SS} (hw : w_WH n nl) (ht : 86 < n) {a1 : Int} (ra1 : rI a1) {s0 : SS} (hs0 : rS s0) (hf : f_Mo_words a1 s0 = some out) : w_MC l D cs aS aV A yX12_words cX12_words 6 1 rm_Mo_words ad n nl [.ref (ad 86), .int (vI a1)] s0 (w_Po ad n nl out) := by
  refine w_MC_of (by decide +kernel) (by decide) hs0 (Nat.le_of_ble_eq_true rfl) (fun K h hr => ?_)
  refine r_lv (lv' := [(0, .ref (ad 86)), (1, .int (vI a1))]) rfl ?_
  unfold f_Mo_words at hf
  refine r_rS h (fun hs0 => ?_)
  refine r_iload_n h dX12_words_0 rfl 1 rfl ?_
  refine r_iconst h dX12_words_1 ?_
  refine r_bipush h dX12_words_2 (by decide) ?_
  obtain ⟨r1, s1, hq1, hf⟩ := ob_some hf
  refine r_callS2 h [.int (vI a1), .int (vI 0), .int (vI 60)] dX12_words_4 (fun hs => m_Mo_isIn hw ra1 (rIc rfl) (rIc rfl) hs hq1) ml_X12_400 cv_Mo_isIn rfl ⟨rfl, rfl⟩ ⟨Nat.le_of_ble_eq_true rfl, Nat.le_of_ble_eq_true rfl⟩ ⟨Nat.le_of_ble_eq_true rfl, Nat.le_of_ble_eq_true rfl⟩ (Nat.le_of_ble_eq_true rfl) rfl (fun hr1 hs1 => ?_)
  refine r_if_eq (tgt := 17) h dX12_words_7 (by decide) (rI_b hr1) (fun hc2 => ?_) (fun hc2 => ?_)
  · have hf := ite_t hc2 hf
    refine r_iconst h dX12_words_17 ?_
    exact r_ret1 hr dX12_words_18 (rIc rfl) hf
  · have hf := ite_f hc2 hf
    refine r_aload_n h dX12_words_10 rfl 0 rfl ?_
    obtain ⟨r3, s3, hq3, hf⟩ := ob_some hf
    refine r_callV2 h [] dX12_words_11 (fun hs => m_Mo_doWalk hw ht hs hq3) ml_X12_475 cv_Mo_doWalk rfl (co := 12) rfl (by decide) ht rC_86 ⟨rfl, rfl⟩ ⟨Nat.le_of_ble_eq_true rfl, Nat.le_of_ble_eq_true rfl⟩ ⟨Nat.le_of_ble_eq_true rfl, Nat.le_of_ble_eq_true rfl⟩ (Nat.le_of_ble_eq_true rfl) rfl (fun hr3 hs3 => ?_)
    refine r_if_ne (tgt := 19) h dX12_words_14 (by decide) (rI_b hr3) (fun hc4 => ?_) (fun hc4 => ?_)
    · have hf := ite_f hc4 hf
      refine r_aload_n h dX12_words_19 rfl 0 rfl ?_
      obtain ⟨r5, s5, hq5, hf⟩ := ob_some hf
      refine r_callV0 h [] dX12_words_20 (fun hs => m_Mo_keepAct hw ht hs hq5) ml_X12_472 cv_Mo_keepAct rfl (co := 12) rfl (by decide) ht rC_86 ⟨rfl, rfl⟩ ⟨Nat.le_of_ble_eq_true rfl, Nat.le_of_ble_eq_true rfl⟩ ⟨Nat.le_of_ble_eq_true rfl, Nat.le_of_ble_eq_true rfl⟩ (Nat.le_of_ble_eq_true rfl) rfl (fun hr5 hs5 => ?_)
      refine r_iconst h dX12_words_23 ?_
      refine r_istore_n h [(2, .int (vI 0)), (0, .ref (ad 86)), (1, .int (vI a1))] dX12_words_24 rfl (by decide) rfl ?_
      refine r_sub h [1, 2, 0] rfl ?_
      exact b_Mo_words_25 h hr hw ht ra1 FU 0 s5 (rIc rfl) hf
    · have hf := ite_nf hc4 hf
      refine r_iconst h dX12_words_17 ?_
      exact r_ret1 hr dX12_words_18 (rIc rfl) hf
set_option maxRecDepth 20000 in
theorem m_Mo_year {l : Launch} {D : va_G} {cs : Nat → ClassId} {aS aV : Nat} {A : Nat → Prop} {ad : Nat → Nat} {n : Nat} {nl : Nat → Nat → Bool} {out : Int × SS} (hw : w_WH n nl) (ht : 86 < n) {s0 : SS} (hs0 : rS s0) (hf : f_Mo_year s0 = some out) : w_MC l D cs aS aV A yX12_year cX12_year 3 1 rm_Mo_year ad n nl [.ref (ad 86)] s0 (w_Po ad n nl out) := by
  refine w_MC_of (by decide +kernel) (by decide) hs0 (Nat.le_of_ble_eq_true rfl) (fun K h hr => ?_)
  refine r_lv (lv' := [(0, .ref (ad 86))]) rfl ?_
  unfold f_Mo_year at hf
  refine r_rS h (fun hs0 => ?_)
  refine r_aload_n h dX12_year_0 rfl 0 rfl ?_
  obtain ⟨r1, s1, hq1, hf⟩ := ob_some hf
  refine r_callV1 h [] dX12_year_1 (fun hs => m_Mo_soulMany hw ht hs hq1) ml_X12_404 cv_Mo_soulMany rfl (co := 12) rfl (by decide) ht rC_86 ⟨rfl, rfl⟩ ⟨Nat.le_of_ble_eq_true rfl, Nat.le_of_ble_eq_true rfl⟩ ⟨Nat.le_of_ble_eq_true rfl, Nat.le_of_ble_eq_true rfl⟩ (Nat.le_of_ble_eq_true rfl) rfl (fun hr1 hs1 => ?_)
  refine r_if_ne (tgt := 9) h dX12_year_4 (by decide) hr1 (fun hc2 => ?_) (fun hc2 => ?_)
  · have hf := ite_f hc2 hf
    refine r_aload_n h dX12_year_9 rfl 0 rfl ?_
    obtain ⟨r3, s3, hq3, hf⟩ := ob_some hf
    refine r_callV0 h [] dX12_year_10 (fun hs => m_Mo_keepAct hw ht hs hq3) ml_X12_472 cv_Mo_keepAct rfl (co := 12) rfl (by decide) ht rC_86 ⟨rfl, rfl⟩ ⟨Nat.le_of_ble_eq_true rfl, Nat.le_of_ble_eq_true rfl⟩ ⟨Nat.le_of_ble_eq_true rfl, Nat.le_of_ble_eq_true rfl⟩ (Nat.le_of_ble_eq_true rfl) rfl (fun hr3 hs3 => ?_)
    refine r_aload_n h dX12_year_13 rfl 0 rfl ?_
    have hq4 := w_ref hw ht rC_86 (by decide) (k := 52) (by decide) rf_12_52
    refine g_X12_110 h dX12_year_14 ht rC_86 hq4.1 ?_
    refine r_iconst h dX12_year_17 ?_
    refine r_sipush h dX12_year_18 (by decide) ?_
    refine r_aload_n h dX12_year_21 rfl 0 rfl ?_
    have hq5 := w_ref hw ht rC_86 (by decide) (k := 52) (by decide) rf_12_52
    refine g_X12_110 h dX12_year_22 ht rC_86 hq5.1 ?_
    refine r_iconst h dX12_year_25 ?_
    refine r_iald h dX12_year_26 hq5.2 rC_118 (rIc rfl) (N := 44) (by rw [rN_118]; rfl) (j := 0) rfl (by decide) ?_
    refine r_imul h dX12_year_27 ?_
    refine r_bipush h dX12_year_28 (by decide) ?_
    refine r_iadd h dX12_year_30 ?_
    refine r_sipush h dX12_year_31 (by decide) ?_
    refine r_irem h dX12_year_34 (rI_iw _) (rIc rfl) (by decide) ?_
    refine r_iast h dX12_year_35 hq4.2 rC_118 (rIc rfl) (N := 44) (by rw [rN_118]; rfl) (j := 0) rfl (by decide) (rI_tmod (rI_iw _) (rIc rfl)) ?_
    refine r_os hf (fun s6 hf => ?_)
    refine r_rS h (fun hs6 => ?_)
    refine r_aload_n h dX12_year_36 rfl 0 rfl ?_
    have hq7 := w_ref hw ht rC_86 (by decide) (k := 52) (by decide) rf_12_52
    refine g_X12_110 h dX12_year_37 ht rC_86 hq7.1 ?_
    refine r_iconst h dX12_year_40 ?_
    refine r_iald h dX12_year_41 hq7.2 rC_118 (rIc rfl) (N := 44) (by rw [rN_118]; rfl) (j := 0) rfl (by decide) ?_
    refine r_aload_n h dX12_year_42 rfl 0 rfl ?_
    obtain ⟨r8, s8, hq8, hf⟩ := ob_some hf
    refine r_callV1 h [] dX12_year_43 (fun hs => m_Mo_soulMany hw ht hs hq8) ml_X12_404 cv_Mo_soulMany rfl (co := 12) rfl (by decide) ht rC_86 ⟨rfl, rfl⟩ ⟨Nat.le_of_ble_eq_true rfl, Nat.le_of_ble_eq_true rfl⟩ ⟨Nat.le_of_ble_eq_true rfl, Nat.le_of_ble_eq_true rfl⟩ (Nat.le_of_ble_eq_true rfl) rfl (fun hr8 hs8 => ?_)
    obtain ⟨h09, hf⟩ := oc_some hf
    refine r_irem h dX12_year_46 (hs6.1 _ _) hr8 h09 ?_
    refine r_ol hf (rI_tmod (hs6.1 _ _) hr8) (fun x10_ rx10_ hf => ?_)
    refine r_istore_n h [(1, .int (vI x10_)), (0, .ref (ad 86))] dX12_year_47 rfl (by decide) rfl ?_
    refine r_iconst h dX12_year_48 ?_
    refine r_iconst h dX12_year_49 ?_
    refine r_iload_n h dX12_year_50 rfl 0 rfl ?_
    refine r_imul h dX12_year_51 ?_
    refine r_iadd h dX12_year_52 ?_
    refine r_aload_n h dX12_year_53 rfl 1 rfl ?_
    have hq11 := w_ref hw ht rC_86 (by decide) (k := 52) (by decide) rf_12_52
    refine g_X12_110 h dX12_year_54 ht rC_86 hq11.1 ?_
    refine r_iconst h dX12_year_57 ?_
    refine r_iald h dX12_year_58 hq11.2 rC_118 (rIc rfl) (N := 44) (by rw [rN_118]; rfl) (j := 0) rfl (by decide) ?_
    refine r_bipush h dX12_year_59 (by decide) ?_
    refine r_idivP h dX12_year_61 (hs8.1 _ _) (rIc rfl) (by decide) ?_
    refine r_iconst h dX12_year_62 ?_
    refine r_irem h dX12_year_63 (rI_tdivP (hs8.1 _ _) (by decide)) (rIc rfl) (by decide) ?_
    refine r_iadd h dX12_year_64 ?_
    refine r_ol hf (rI_iw _) (fun x12_ rx12_ hf => ?_)
    refine r_istore_n h [(2, .int (vI x12_)), (1, .int (vI x10_)), (0, .ref (ad 86))] dX12_year_65 rfl (by decide) rfl ?_
    refine r_aload_n h dX12_year_66 rfl 2 rfl ?_
    have hq13 := w_ref hw ht rC_86 (by decide) (k := 52) (by decide) rf_12_52
    refine g_X12_110 h dX12_year_67 ht rC_86 hq13.1 ?_
    refine r_iload_n h dX12_year_70 rfl 0 rfl ?_
    obtain ⟨hi14, hf⟩ := oc_some hf
    refine r_iald h dX12_year_71 hq13.2 rC_118 rx12_ (N := 44) (by rw [rN_118]; rfl) (j := (x12_).toNat) rfl hi14 ?_
    refine r_bipush h dX12_year_72 (by decide) ?_
    refine r_icmp_ge (tgt := 87) h dX12_year_74 (by decide) (hs8.1 _ _) (rIc rfl) (fun hc15 => ?_) (fun hc15 => ?_)
    · have hf := ite_t hc15 hf
      refine r_iload_n h dX12_year_87 rfl 1 rfl ?_
      exact r_ret1 hr dX12_year_88 rx10_ hf
    · have hf := ite_f hc15 hf
      refine r_aload_n h dX12_year_77 rfl 2 rfl ?_
      have hq16 := w_ref hw ht rC_86 (by decide) (k := 52) (by decide) rf_12_52
      refine g_X12_110 h dX12_year_78 ht rC_86 hq16.1 ?_
      refine r_iload_n h dX12_year_81 rfl 0 rfl ?_
      refine r_dup2a h dX12_year_82 rfl rfl ?_
      obtain ⟨hi17, hf⟩ := oc_some hf
      refine r_iald h dX12_year_83 hq16.2 rC_118 rx12_ (N := 44) (by rw [rN_118]; rfl) (j := (x12_).toNat) rfl hi17 ?_
      refine r_iconst h dX12_year_84 ?_
      refine r_iadd h dX12_year_85 ?_
      obtain ⟨hi18, hf⟩ := oc_some hf
      refine r_iast h dX12_year_86 hq16.2 rC_118 rx12_ (N := 44) (by rw [rN_118]; rfl) (j := (x12_).toNat) rfl hi18 (rI_iw _) ?_
      refine r_os hf (fun s19 hf => ?_)
      refine r_rS h (fun hs19 => ?_)
      refine r_iload_n h dX12_year_87 rfl 1 rfl ?_
      exact r_ret1 hr dX12_year_88 rx10_ hf
  · have hf := ite_nf hc2 hf
    refine r_iconst h dX12_year_7 ?_
    exact r_ret1 hr dX12_year_8 (rIc rfl) hf
set_option maxRecDepth 20000 in
theorem m_Mo_walk {l : Launch} {D : va_G} {cs : Nat → ClassId} {aS aV : Nat} {A : Nat → Prop} {ad : Nat → Nat} {n : Nat} {nl : Nat → Nat → Bool} {out : Int × SS} (hw : w_WH n nl) (ht : 86 < n) {a1 : Int} (ra1 : rI a1) {s0 : SS} (hs0 : rS s0) (hf : f_Mo_walk a1 s0 = some out) : w_MC l D cs aS aV A yX12_walk cX12_walk 2 1 rm_Mo_walk ad n nl [.ref (ad 86), .int (vI a1)] s0 (w_Po ad n nl out) := by
  refine w_MC_of (by decide +kernel) (by decide) hs0 (Nat.le_of_ble_eq_true rfl) (fun K h hr => ?_)
  refine r_lv (lv' := [(0, .ref (ad 86)), (1, .int (vI a1))]) rfl ?_
  unfold f_Mo_walk at hf
  refine r_rS h (fun hs0 => ?_)
  refine r_aload_n h dX12_walk_0 rfl 0 rfl ?_
  obtain ⟨r1, s1, hq1, hf⟩ := ob_some hf
  refine r_callV2 h [] dX12_walk_1 (fun hs => m_Mo_doWalk hw ht hs hq1) ml_X12_475 cv_Mo_doWalk rfl (co := 12) rfl (by decide) ht rC_86 ⟨rfl, rfl⟩ ⟨Nat.le_of_ble_eq_true rfl, Nat.le_of_ble_eq_true rfl⟩ ⟨Nat.le_of_ble_eq_true rfl, Nat.le_of_ble_eq_true rfl⟩ (Nat.le_of_ble_eq_true rfl) rfl (fun hr1 hs1 => ?_)
  refine r_if_ne (tgt := 9) h dX12_walk_4 (by decide) (rI_b hr1) (fun hc2 => ?_) (fun hc2 => ?_)
  · have hf := ite_f hc2 hf
    refine r_iload_n h dX12_walk_9 rfl 1 rfl ?_
    by_cases hc3 : a1 = 0
    · have hf := ite_t hc3 hf
      refine r_tableIn (tgt := 52) h dX12_walk_10 hc3 (rIc rfl) (by decide) (by decide) (off := 42) rfl (by decide) ?_
      refine r_aload_n h dX12_walk_52 rfl 0 rfl ?_
      have hq4 := w_ref hw ht rC_86 (by decide) (k := 52) (by decide) rf_12_52
      refine g_X12_110 h dX12_walk_53 ht rC_86 hq4.1 ?_
      refine r_bipush h dX12_walk_56 (by decide) ?_
      refine r_iald h dX12_walk_58 hq4.2 rC_118 (rIc rfl) (N := 44) (by rw [rN_118]; rfl) (j := 16) rfl (by decide) ?_
      exact r_ret1 hr dX12_walk_59 (hs1.1 _ _) hf
    · have hf := ite_f hc3 hf
      by_cases hc5 : a1 = 1
      · have hf := ite_t hc5 hf
        refine r_tableIn (tgt := 60) h dX12_walk_10 hc5 (rIc rfl) (by decide) (by decide) (off := 50) rfl (by decide) ?_
        refine r_aload_n h dX12_walk_60 rfl 0 rfl ?_
        have hq6 := w_ref hw ht rC_86 (by decide) (k := 52) (by decide) rf_12_52
        refine g_X12_110 h dX12_walk_61 ht rC_86 hq6.1 ?_
        refine r_bipush h dX12_walk_64 (by decide) ?_
        refine r_iald h dX12_walk_66 hq6.2 rC_118 (rIc rfl) (N := 44) (by rw [rN_118]; rfl) (j := 17) rfl (by decide) ?_
        exact r_ret1 hr dX12_walk_67 (hs1.1 _ _) hf
      · have hf := ite_f hc5 hf
        by_cases hc7 : a1 = 2
        · have hf := ite_t hc7 hf
          refine r_tableIn (tgt := 68) h dX12_walk_10 hc7 (rIc rfl) (by decide) (by decide) (off := 58) rfl (by decide) ?_
          refine r_aload_n h dX12_walk_68 rfl 0 rfl ?_
          have hq8 := w_ref hw ht rC_86 (by decide) (k := 52) (by decide) rf_12_52
          refine g_X12_110 h dX12_walk_69 ht rC_86 hq8.1 ?_
          refine r_bipush h dX12_walk_72 (by decide) ?_
          refine r_iald h dX12_walk_74 hq8.2 rC_118 (rIc rfl) (N := 44) (by rw [rN_118]; rfl) (j := 18) rfl (by decide) ?_
          exact r_ret1 hr dX12_walk_75 (hs1.1 _ _) hf
        · have hf := ite_f hc7 hf
          by_cases hc9 : a1 = 3
          · have hf := ite_t hc9 hf
            refine r_tableIn (tgt := 76) h dX12_walk_10 hc9 (rIc rfl) (by decide) (by decide) (off := 66) rfl (by decide) ?_
            refine r_aload_n h dX12_walk_76 rfl 0 rfl ?_
            have hq10 := w_ref hw ht rC_86 (by decide) (k := 52) (by decide) rf_12_52
            refine g_X12_110 h dX12_walk_77 ht rC_86 hq10.1 ?_
            refine r_bipush h dX12_walk_80 (by decide) ?_
            refine r_iald h dX12_walk_82 hq10.2 rC_118 (rIc rfl) (N := 44) (by rw [rN_118]; rfl) (j := 19) rfl (by decide) ?_
            exact r_ret1 hr dX12_walk_83 (hs1.1 _ _) hf
          · have hf := ite_f hc9 hf
            by_cases hc11 : a1 = 4
            · have hf := ite_t hc11 hf
              refine r_tableIn (tgt := 84) h dX12_walk_10 hc11 (rIc rfl) (by decide) (by decide) (off := 74) rfl (by decide) ?_
              refine r_aload_n h dX12_walk_84 rfl 0 rfl ?_
              have hq12 := w_ref hw ht rC_86 (by decide) (k := 52) (by decide) rf_12_52
              refine g_X12_110 h dX12_walk_85 ht rC_86 hq12.1 ?_
              refine r_bipush h dX12_walk_88 (by decide) ?_
              refine r_iald h dX12_walk_90 hq12.2 rC_118 (rIc rfl) (N := 44) (by rw [rN_118]; rfl) (j := 20) rfl (by decide) ?_
              exact r_ret1 hr dX12_walk_91 (hs1.1 _ _) hf
            · have hf := ite_f hc11 hf
              by_cases hc13 : a1 = 5
              · have hf := ite_t hc13 hf
                refine r_tableIn (tgt := 92) h dX12_walk_10 hc13 (rIc rfl) (by decide) (by decide) (off := 82) rfl (by decide) ?_
                refine r_aload_n h dX12_walk_92 rfl 0 rfl ?_
                have hq14 := w_ref hw ht rC_86 (by decide) (k := 52) (by decide) rf_12_52
                refine g_X12_110 h dX12_walk_93 ht rC_86 hq14.1 ?_
                refine r_bipush h dX12_walk_96 (by decide) ?_
                refine r_iald h dX12_walk_98 hq14.2 rC_118 (rIc rfl) (N := 44) (by rw [rN_118]; rfl) (j := 21) rfl (by decide) ?_
                exact r_ret1 hr dX12_walk_99 (hs1.1 _ _) hf
              · have hf := ite_f hc13 hf
                by_cases hc15 : a1 = 6
                · have hf := ite_t hc15 hf
                  refine r_tableIn (tgt := 100) h dX12_walk_10 hc15 (rIc rfl) (by decide) (by decide) (off := 90) rfl (by decide) ?_
                  refine r_aload_n h dX12_walk_100 rfl 0 rfl ?_
                  have hq16 := w_ref hw ht rC_86 (by decide) (k := 52) (by decide) rf_12_52
                  refine g_X12_110 h dX12_walk_101 ht rC_86 hq16.1 ?_
                  obtain ⟨r17, s17, hq17, hf⟩ := ob_some hf
                  refine r_callS2 h [.ref (ad 118)] dX12_walk_104 (fun hs => m_Mo_isEnded hw hq16.2 rC_118 hs hq17) ml_X12_432 cv_Mo_isEnded rfl ⟨rfl, rfl⟩ ⟨Nat.le_of_ble_eq_true rfl, Nat.le_of_ble_eq_true rfl⟩ ⟨Nat.le_of_ble_eq_true rfl, Nat.le_of_ble_eq_true rfl⟩ (Nat.le_of_ble_eq_true rfl) rfl (fun hr17 hs17 => ?_)
                  refine r_if_eq (tgt := 114) h dX12_walk_107 (by decide) (rI_b hr17) (fun hc18 => ?_) (fun hc18 => ?_)
                  · have hf := ite_t hc18 hf
                    refine r_iconst h dX12_walk_114 ?_
                    exact r_ret1 hr dX12_walk_115 (rIc rfl) hf
                  · have hf := ite_f hc18 hf
                    refine r_iconst h dX12_walk_110 ?_
                    refine r_goto (tgt := 115) h dX12_walk_111 (by decide) ?_
                    exact r_ret1 hr dX12_walk_115 (rIc rfl) hf
                · have hf := ite_f hc15 hf
                  refine r_tableX (tgt := 116) h dX12_walk_10 ra1 (by rcases (show a1 < 0 ∨ 6 < a1 from by omega) with q | q; exact Or.inl q; exact Or.inr (Or.inl q)) (by decide) ?_
                  refine r_iconst h dX12_walk_116 ?_
                  exact r_ret1 hr dX12_walk_117 (rIc rfl) hf
  · have hf := ite_nf hc2 hf
    refine r_iconst h dX12_walk_7 ?_
    exact r_ret1 hr dX12_walk_8 (rIc rfl) hf
set_option maxRecDepth 20000 in
theorem m_Mo_undo {l : Launch} {D : va_G} {cs : Nat → ClassId} {aS aV : Nat} {A : Nat → Prop} {ad : Nat → Nat} {n : Nat} {nl : Nat → Nat → Bool} {out : Int × SS} (hw : w_WH n nl) (ht : 86 < n) {s0 : SS} (hs0 : rS s0) (hf : f_Mo_undo s0 = some out) : w_MC l D cs aS aV A yX12_undo cX12_undo 1 2 rm_Mo_undo ad n nl [.ref (ad 86)] s0 (w_Po ad n nl out) := by
  refine w_MC_of (by decide +kernel) (by decide) hs0 (Nat.le_of_ble_eq_true rfl) (fun K h hr => ?_)
  refine r_lv (lv' := [(0, .ref (ad 86))]) rfl ?_
  unfold f_Mo_undo at hf
  refine r_rS h (fun hs0 => ?_)
  refine r_aload_n h dX12_undo_0 rfl 0 rfl ?_
  refine g_X12_454 h dX12_undo_1 ht rC_86 ?_
  refine r_if_ne (tgt := 9) h dX12_undo_4 (by decide) (hs0.1 _ _) (fun hc1 => ?_) (fun hc1 => ?_)
  · have hf := ite_f hc1 hf
    refine r_aload_n h dX12_undo_9 rfl 0 rfl ?_
    refine r_dup h dX12_undo_10 rfl ?_
    refine g_X12_454 h dX12_undo_11 ht rC_86 ?_
    refine r_iconst h dX12_undo_14 ?_
    refine r_isub h dX12_undo_15 ?_
    refine p_X12_454 h dX12_undo_16 ht rC_86 (rI_iw _) ?_
    refine r_os hf (fun s2 hf => ?_)
    refine r_rS h (fun hs2 => ?_)
    refine r_aload_n h dX12_undo_19 rfl 0 rfl ?_
    refine r_dup h dX12_undo_20 rfl ?_
    refine g_X12_457 h dX12_undo_21 ht rC_86 ?_
    refine r_iconst h dX12_undo_24 ?_
    refine r_iadd h dX12_undo_25 ?_
    refine p_X12_457 h dX12_undo_26 ht rC_86 (rI_iw _) ?_
    refine r_os hf (fun s3 hf => ?_)
    refine r_rS h (fun hs3 => ?_)
    refine r_aload_n h dX12_undo_29 rfl 0 rfl ?_
    obtain ⟨r4, s4, hq4, hf⟩ := ob_some hf
    refine r_callV0 h [] dX12_undo_30 (fun hs => m_Mo_exchange hw ht hs hq4) ml_X12_481 cv_Mo_exchange rfl (co := 12) rfl (by decide) ht rC_86 ⟨rfl, rfl⟩ ⟨Nat.le_of_ble_eq_true rfl, Nat.le_of_ble_eq_true rfl⟩ ⟨Nat.le_of_ble_eq_true rfl, Nat.le_of_ble_eq_true rfl⟩ (Nat.le_of_ble_eq_true rfl) rfl (fun hr4 hs4 => ?_)
    refine r_iconst h dX12_undo_33 ?_
    exact r_ret2 hr dX12_undo_34 (Or.inr rfl) hf
  · have hf := ite_nf hc1 hf
    refine r_iconst h dX12_undo_7 ?_
    exact r_ret2 hr dX12_undo_8 (Or.inl rfl) hf
set_option maxRecDepth 20000 in
theorem m_Mo_redo {l : Launch} {D : va_G} {cs : Nat → ClassId} {aS aV : Nat} {A : Nat → Prop} {ad : Nat → Nat} {n : Nat} {nl : Nat → Nat → Bool} {out : Int × SS} (hw : w_WH n nl) (ht : 86 < n) {s0 : SS} (hs0 : rS s0) (hf : f_Mo_redo s0 = some out) : w_MC l D cs aS aV A yX12_redo cX12_redo 1 2 rm_Mo_redo ad n nl [.ref (ad 86)] s0 (w_Po ad n nl out) := by
  refine w_MC_of (by decide +kernel) (by decide) hs0 (Nat.le_of_ble_eq_true rfl) (fun K h hr => ?_)
  refine r_lv (lv' := [(0, .ref (ad 86))]) rfl ?_
  unfold f_Mo_redo at hf
  refine r_rS h (fun hs0 => ?_)
  refine r_aload_n h dX12_redo_0 rfl 0 rfl ?_
  refine g_X12_457 h dX12_redo_1 ht rC_86 ?_
  refine r_if_ne (tgt := 9) h dX12_redo_4 (by decide) (hs0.1 _ _) (fun hc1 => ?_) (fun hc1 => ?_)
  · have hf := ite_f hc1 hf
    refine r_aload_n h dX12_redo_9 rfl 0 rfl ?_
    obtain ⟨r2, s2, hq2, hf⟩ := ob_some hf
    refine r_callV0 h [] dX12_redo_10 (fun hs => m_Mo_exchange hw ht hs hq2) ml_X12_481 cv_Mo_exchange rfl (co := 12) rfl (by decide) ht rC_86 ⟨rfl, rfl⟩ ⟨Nat.le_of_ble_eq_true rfl, Nat.le_of_ble_eq_true rfl⟩ ⟨Nat.le_of_ble_eq_true rfl, Nat.le_of_ble_eq_true rfl⟩ (Nat.le_of_ble_eq_true rfl) rfl (fun hr2 hs2 => ?_)
    refine r_aload_n h dX12_redo_13 rfl 0 rfl ?_
    refine r_dup h dX12_redo_14 rfl ?_
    refine g_X12_454 h dX12_redo_15 ht rC_86 ?_
    refine r_iconst h dX12_redo_18 ?_
    refine r_iadd h dX12_redo_19 ?_
    refine p_X12_454 h dX12_redo_20 ht rC_86 (rI_iw _) ?_
    refine r_os hf (fun s3 hf => ?_)
    refine r_rS h (fun hs3 => ?_)
    refine r_aload_n h dX12_redo_23 rfl 0 rfl ?_
    refine r_dup h dX12_redo_24 rfl ?_
    refine g_X12_457 h dX12_redo_25 ht rC_86 ?_
    refine r_iconst h dX12_redo_28 ?_
    refine r_isub h dX12_redo_29 ?_
    refine p_X12_457 h dX12_redo_30 ht rC_86 (rI_iw _) ?_
    refine r_os hf (fun s4 hf => ?_)
    refine r_rS h (fun hs4 => ?_)
    refine r_iconst h dX12_redo_33 ?_
    exact r_ret2 hr dX12_redo_34 (Or.inr rfl) hf
  · have hf := ite_nf hc1 hf
    refine r_iconst h dX12_redo_7 ?_
    exact r_ret2 hr dX12_redo_8 (Or.inl rfl) hf
set_option maxRecDepth 20000 in
theorem m_Mo_lies {l : Launch} {D : va_G} {cs : Nat → ClassId} {aS aV : Nat} {A : Nat → Prop} {ad : Nat → Nat} {n : Nat} {nl : Nat → Nat → Bool} {out : Int × SS} (hw : w_WH n nl) (ht : 86 < n) {a1 : Int} (ra1 : rI a1) {s0 : SS} (hs0 : rS s0) (hf : f_Mo_lies a1 s0 = some out) : w_MC l D cs aS aV A yX12_lies cX12_lies 2 1 rm_Mo_lies ad n nl [.ref (ad 86), .int (vI a1)] s0 (w_Po ad n nl out) := by
  refine w_MC_of (by decide +kernel) (by decide) hs0 (Nat.le_of_ble_eq_true rfl) (fun K h hr => ?_)
  refine r_lv (lv' := [(0, .ref (ad 86)), (1, .int (vI a1))]) rfl ?_
  unfold f_Mo_lies at hf
  refine r_rS h (fun hs0 => ?_)
  refine r_iload_n h dX12_lies_0 rfl 1 rfl ?_
  refine r_iconst h dX12_lies_1 ?_
  refine r_aload_n h dX12_lies_2 rfl 0 rfl ?_
  refine g_X12_466 h dX12_lies_3 ht rC_86 ?_
  refine r_iconst h dX12_lies_6 ?_
  refine r_isub h dX12_lies_7 ?_
  obtain ⟨r1, s1, hq1, hf⟩ := ob_some hf
  refine r_callS2 h [.int (vI a1), .int (vI 0), .int (vI (iw ((gi s0 86 62) - 1)))] dX12_lies_8 (fun hs => m_Mo_isIn hw ra1 (rIc rfl) (rI_iw _) hs hq1) ml_X12_400 cv_Mo_isIn rfl ⟨rfl, rfl⟩ ⟨Nat.le_of_ble_eq_true rfl, Nat.le_of_ble_eq_true rfl⟩ ⟨Nat.le_of_ble_eq_true rfl, Nat.le_of_ble_eq_true rfl⟩ (Nat.le_of_ble_eq_true rfl) rfl (fun hr1 hs1 => ?_)
  refine r_if_eq (tgt := 23) h dX12_lies_11 (by decide) (rI_b hr1) (fun hc2 => ?_) (fun hc2 => ?_)
  · have hf := ite_t hc2 hf
    refine r_iconst h dX12_lies_23 ?_
    exact r_ret1 hr dX12_lies_24 (rIc rfl) hf
  · have hf := ite_f hc2 hf
    refine r_aload_n h dX12_lies_14 rfl 0 rfl ?_
    have hq3 := w_ref hw ht rC_86 (by decide) (k := 59) (by decide) rf_12_59
    refine g_X12_122 h dX12_lies_15 ht rC_86 hq3.1 ?_
    refine r_iload_n h dX12_lies_18 rfl 1 rfl ?_
    obtain ⟨hi4, hf⟩ := oc_some hf
    refine r_iald h dX12_lies_19 hq3.2 rC_122 ra1 (N := 12) (by rw [rN_122]; rfl) (j := (a1).toNat) rfl hi4 ?_
    refine r_goto (tgt := 24) h dX12_lies_20 (by decide) ?_
    exact r_ret1 hr dX12_lies_24 (hs1.1 _ _) hf
set_option maxRecDepth 20000 in
theorem m_Mo_start {l : Launch} {D : va_G} {cs : Nat → ClassId} {aS aV : Nat} {A : Nat → Prop} {ad : Nat → Nat} {n : Nat} {nl : Nat → Nat → Bool} {out : Int × SS} (hw : w_WH n nl) (ht : 86 < n) {a1 : Int} (ra1 : rI a1) {s0 : SS} (hs0 : rS s0) (hf : f_Mo_start a1 s0 = some out) : w_MC l D cs aS aV A yX12_start cX12_start 2 1 rm_Mo_start ad n nl [.ref (ad 86), .int (vI a1)] s0 (w_Po ad n nl out) := by
  refine w_MC_of (by decide +kernel) (by decide) hs0 (Nat.le_of_ble_eq_true rfl) (fun K h hr => ?_)
  refine r_lv (lv' := [(0, .ref (ad 86)), (1, .int (vI a1))]) rfl ?_
  unfold f_Mo_start at hf
  refine r_rS h (fun hs0 => ?_)
  refine r_aload_n h dX12_start_0 rfl 0 rfl ?_
  refine r_iload_n h dX12_start_1 rfl 1 rfl ?_
  obtain ⟨r1, s1, hq1, hf⟩ := ob_some hf
  refine r_callV2 h [.int (vI a1)] dX12_start_2 (fun hs => m_Mo_isPlace hw ht ra1 hs hq1) ml_X12_469 cv_Mo_isPlace rfl (co := 12) rfl (by decide) ht rC_86 ⟨rfl, rfl⟩ ⟨Nat.le_of_ble_eq_true rfl, Nat.le_of_ble_eq_true rfl⟩ ⟨Nat.le_of_ble_eq_true rfl, Nat.le_of_ble_eq_true rfl⟩ (Nat.le_of_ble_eq_true rfl) rfl (fun hr1 hs1 => ?_)
  refine r_if_ne (tgt := 10) h dX12_start_5 (by decide) (rI_b hr1) (fun hc2 => ?_) (fun hc2 => ?_)
  · have hf := ite_f hc2 hf
    refine r_aload_n h dX12_start_10 rfl 0 rfl ?_
    refine r_iload_n h dX12_start_11 rfl 1 rfl ?_
    refine p_X12_125 h dX12_start_12 ht rC_86 ra1 ?_
    refine r_os hf (fun s3 hf => ?_)
    refine r_rS h (fun hs3 => ?_)
    refine r_aload_n h dX12_start_15 rfl 0 rfl ?_
    refine r_iconst h dX12_start_16 ?_
    refine p_X12_460 h dX12_start_17 ht rC_86 (rIc rfl) ?_
    refine r_os hf (fun s4 hf => ?_)
    refine r_rS h (fun hs4 => ?_)
    refine r_iconst h dX12_start_20 ?_
    exact r_ret1 hr dX12_start_21 (rIc rfl) hf
  · have hf := ite_nf hc2 hf
    refine r_iconst h dX12_start_8 ?_
    exact r_ret1 hr dX12_start_9 (rIc rfl) hf
set_option maxRecDepth 20000 in
theorem b_Mo_routeEnd_7 {l : Launch} {D : va_G} {cs : Nat → ClassId} {aS aV : Nat} {A : Nat → Prop} {K : KT} {ad : Nat → Nat} {n : Nat} {nl : Nat → Nat → Bool} {out : Int × SS} (h : w_Cl l rm_Mo_routeEnd D cs aS aV A cX12_routeEnd 3 RX12 "routeEnd" K) (hr : w_Rt 1 cX12_routeEnd 0 0 (w_Po ad n nl out) K) (hw : w_WH n nl) (ht : 86 < n) : ∀ (fu : Nat) (x1 : Int) (x2 : Int) (s0 : SS), rI x1 → rI x2 → l_Mo_routeEnd_7 fu x1 x2 s0 = some out → K ad n nl 0 0 7 [(0, .ref (ad 86)), (1, .int (vI x1)), (2, .int (vI x2))] [] s0 := by
  intro fu
  induction fu with
  | zero =>
    intro x1 x2 s0 rx1 rx2 hf
    rw [l_Mo_routeEnd_7] at hf
    cases hf
  | succ fu ih =>
    intro x1 x2 s0 rx1 rx2 hf
    rw [l_Mo_routeEnd_7] at hf
    refine r_rS h (fun hs0 => ?_)
    refine r_iload_n h dX12_routeEnd_7 rfl 2 rfl ?_
    refine r_aload_n h dX12_routeEnd_8 rfl 0 rfl ?_
    refine g_X12_460 h dX12_routeEnd_9 ht rC_86 ?_
    refine r_icmp_ge (tgt := 33) h dX12_routeEnd_12 (by decide) rx2 (hs0.1 _ _) (fun hc1 => ?_) (fun hc1 => ?_)
    · have hf := ite_t hc1 hf
      refine r_iload_n h dX12_routeEnd_33 rfl 1 rfl ?_
      exact r_ret1 hr dX12_routeEnd_34 rx1 hf
    · have hf := ite_f hc1 hf
      refine r_aload_n h dX12_routeEnd_15 rfl 0 rfl ?_
      refine r_aload_n h dX12_routeEnd_16 rfl 0 rfl ?_
      have hq2 := w_ref hw ht rC_86 (by decide) (k := 58) (by decide) rf_12_58
      refine g_X12_119 h dX12_routeEnd_17 ht rC_86 hq2.1 ?_
      refine r_iload_n h dX12_routeEnd_20 rfl 2 rfl ?_
      obtain ⟨hi3, hf⟩ := oc_some hf
      refine r_iald h dX12_routeEnd_21 hq2.2 rC_121 rx2 (N := 12) (by rw [rN_121]; rfl) (j := (x2).toNat) rfl hi3 ?_
      refine r_iload_n h dX12_routeEnd_22 rfl 1 rfl ?_
      obtain ⟨r4, s4, hq4, hf⟩ := ob_some hf
      refine r_callV1 h [.int (vI (gi s0 121 ((x2).toNat))), .int (vI x1)] dX12_routeEnd_23 (fun hs => m_Mo_otherEnd hw ht (hs0.1 _ _) rx1 hs hq4) ml_X12_478 cv_Mo_otherEnd rfl (co := 12) rfl (by decide) ht rC_86 ⟨rfl, rfl⟩ ⟨Nat.le_of_ble_eq_true rfl, Nat.le_of_ble_eq_true rfl⟩ ⟨Nat.le_of_ble_eq_true rfl, Nat.le_of_ble_eq_true rfl⟩ (Nat.le_of_ble_eq_true rfl) rfl (fun hr4 hs4 => ?_)
      refine r_istore_n h [(1, .int (vI r4)), (0, .ref (ad 86)), (2, .int (vI x2))] dX12_routeEnd_26 rfl (by decide) rfl ?_
      refine r_iinc h [(2, .int (vI (iw (x2 + 1)))), (1, .int (vI r4)), (0, .ref (ad 86))] dX12_routeEnd_27 2 rfl (by decide) rfl ?_
      refine r_goto (tgt := 7) h dX12_routeEnd_30 (by decide) ?_
      refine r_sub h [2, 1, 0] rfl ?_
      exact ih r4 (iw (x2 + 1)) s4 hr4 (rI_iw _) hf
set_option maxRecDepth 20000 in
theorem m_Mo_routeEnd {l : Launch} {D : va_G} {cs : Nat → ClassId} {aS aV : Nat} {A : Nat → Prop} {ad : Nat → Nat} {n : Nat} {nl : Nat → Nat → Bool} {out : Int × SS} (hw : w_WH n nl) (ht : 86 < n) {s0 : SS} (hs0 : rS s0) (hf : f_Mo_routeEnd s0 = some out) : w_MC l D cs aS aV A yX12_routeEnd cX12_routeEnd 3 1 rm_Mo_routeEnd ad n nl [.ref (ad 86)] s0 (w_Po ad n nl out) := by
  refine w_MC_of (by decide +kernel) (by decide) hs0 (Nat.le_of_ble_eq_true rfl) (fun K h hr => ?_)
  refine r_lv (lv' := [(0, .ref (ad 86))]) rfl ?_
  unfold f_Mo_routeEnd at hf
  refine r_rS h (fun hs0 => ?_)
  refine r_aload_n h dX12_routeEnd_0 rfl 0 rfl ?_
  refine g_X12_125 h dX12_routeEnd_1 ht rC_86 ?_
  refine r_ol hf (hs0.1 _ _) (fun x1_ rx1_ hf => ?_)
  refine r_istore_n h [(1, .int (vI x1_)), (0, .ref (ad 86))] dX12_routeEnd_4 rfl (by decide) rfl ?_
  refine r_iconst h dX12_routeEnd_5 ?_
  refine r_istore_n h [(2, .int (vI 0)), (1, .int (vI x1_)), (0, .ref (ad 86))] dX12_routeEnd_6 rfl (by decide) rfl ?_
  refine r_sub h [2, 1, 0] rfl ?_
  exact b_Mo_routeEnd_7 h hr hw ht FU x1_ 0 s0 rx1_ (rIc rfl) hf
set_option maxRecDepth 20000 in
theorem m_Mo_step {l : Launch} {D : va_G} {cs : Nat → ClassId} {aS aV : Nat} {A : Nat → Prop} {ad : Nat → Nat} {n : Nat} {nl : Nat → Nat → Bool} {out : Int × SS} (hw : w_WH n nl) (ht : 86 < n) {a1 : Int} (ra1 : rI a1) {s0 : SS} (hs0 : rS s0) (hf : f_Mo_step a1 s0 = some out) : w_MC l D cs aS aV A yX12_step cX12_step 2 1 rm_Mo_step ad n nl [.ref (ad 86), .int (vI a1)] s0 (w_Po ad n nl out) := by
  refine w_MC_of (by decide +kernel) (by decide) hs0 (Nat.le_of_ble_eq_true rfl) (fun K h hr => ?_)
  refine r_lv (lv' := [(0, .ref (ad 86)), (1, .int (vI a1))]) rfl ?_
  unfold f_Mo_step at hf
  refine r_rS h (fun hs0 => ?_)
  refine r_aload_n h dX12_step_0 rfl 0 rfl ?_
  refine g_X12_125 h dX12_step_1 ht rC_86 ?_
  refine r_if_lt (tgt := 36) h dX12_step_4 (by decide) (hs0.1 _ _) (fun hc1 => ?_) (fun hc1 => ?_)
  · have hf := ite_t hc1 hf
    refine r_iconst h dX12_step_36 ?_
    exact r_ret1 hr dX12_step_37 (rIc rfl) hf
  · have hf := ite_f hc1 hf
    refine r_aload_n h dX12_step_7 rfl 0 rfl ?_
    refine r_iload_n h dX12_step_8 rfl 1 rfl ?_
    obtain ⟨r2, s2, hq2, hf⟩ := ob_some hf
    refine r_callV2 h [.int (vI a1)] dX12_step_9 (fun hs => m_Mo_isWay hw ht ra1 hs hq2) ml_X12_442 cv_Mo_isWay rfl (co := 12) rfl (by decide) ht rC_86 ⟨rfl, rfl⟩ ⟨Nat.le_of_ble_eq_true rfl, Nat.le_of_ble_eq_true rfl⟩ ⟨Nat.le_of_ble_eq_true rfl, Nat.le_of_ble_eq_true rfl⟩ (Nat.le_of_ble_eq_true rfl) rfl (fun hr2 hs2 => ?_)
    refine r_if_eq (tgt := 36) h dX12_step_12 (by decide) (rI_b hr2) (fun hc3 => ?_) (fun hc3 => ?_)
    · have hf := ite_t hc3 hf
      refine r_iconst h dX12_step_36 ?_
      exact r_ret1 hr dX12_step_37 (rIc rfl) hf
    · have hf := ite_f hc3 hf
      refine r_aload_n h dX12_step_15 rfl 0 rfl ?_
      refine g_X12_460 h dX12_step_16 ht rC_86 ?_
      refine r_bipush h dX12_step_19 (by decide) ?_
      refine r_icmp_eq (tgt := 36) h dX12_step_21 (by decide) (hs2.1 _ _) (rIc rfl) (fun hc4 => ?_) (fun hc4 => ?_)
      · have hf := ite_t hc4 hf
        refine r_iconst h dX12_step_36 ?_
        exact r_ret1 hr dX12_step_37 (rIc rfl) hf
      · have hf := ite_f hc4 hf
        refine r_aload_n h dX12_step_24 rfl 0 rfl ?_
        refine r_iload_n h dX12_step_25 rfl 1 rfl ?_
        refine r_aload_n h dX12_step_26 rfl 0 rfl ?_
        obtain ⟨r5, s5, hq5, hf⟩ := ob_some hf
        refine r_callV1 h [] dX12_step_27 (fun hs => m_Mo_routeEnd hw ht hs hq5) ml_X12_484 cv_Mo_routeEnd rfl (co := 12) rfl (by decide) ht rC_86 ⟨rfl, rfl⟩ ⟨Nat.le_of_ble_eq_true rfl, Nat.le_of_ble_eq_true rfl⟩ ⟨Nat.le_of_ble_eq_true rfl, Nat.le_of_ble_eq_true rfl⟩ (Nat.le_of_ble_eq_true rfl) rfl (fun hr5 hs5 => ?_)
        obtain ⟨r6, s6, hq6, hf⟩ := ob_some hf
        refine r_callV1 h [.int (vI a1), .int (vI r5)] dX12_step_30 (fun hs => m_Mo_otherEnd hw ht ra1 hr5 hs hq6) ml_X12_478 cv_Mo_otherEnd rfl (co := 12) rfl (by decide) ht rC_86 ⟨rfl, rfl⟩ ⟨Nat.le_of_ble_eq_true rfl, Nat.le_of_ble_eq_true rfl⟩ ⟨Nat.le_of_ble_eq_true rfl, Nat.le_of_ble_eq_true rfl⟩ (Nat.le_of_ble_eq_true rfl) rfl (fun hr6 hs6 => ?_)
        refine r_if_ge (tgt := 38) h dX12_step_33 (by decide) hr6 (fun hc7 => ?_) (fun hc7 => ?_)
        · have hf := ite_t hc7 hf
          refine r_aload_n h dX12_step_38 rfl 0 rfl ?_
          have hq8 := w_ref hw ht rC_86 (by decide) (k := 58) (by decide) rf_12_58
          refine g_X12_119 h dX12_step_39 ht rC_86 hq8.1 ?_
          refine r_aload_n h dX12_step_42 rfl 0 rfl ?_
          refine g_X12_460 h dX12_step_43 ht rC_86 ?_
          refine r_iload_n h dX12_step_46 rfl 1 rfl ?_
          obtain ⟨hi9, hf⟩ := oc_some hf
          refine r_iast h dX12_step_47 hq8.2 rC_121 (hs6.1 _ _) (N := 12) (by rw [rN_121]; rfl) (j := (gi s6 86 61).toNat) rfl hi9 ra1 ?_
          refine r_os hf (fun s10 hf => ?_)
          refine r_rS h (fun hs10 => ?_)
          refine r_aload_n h dX12_step_48 rfl 0 rfl ?_
          refine r_dup h dX12_step_49 rfl ?_
          refine g_X12_460 h dX12_step_50 ht rC_86 ?_
          refine r_iconst h dX12_step_53 ?_
          refine r_iadd h dX12_step_54 ?_
          refine p_X12_460 h dX12_step_55 ht rC_86 (rI_iw _) ?_
          refine r_os hf (fun s11 hf => ?_)
          refine r_rS h (fun hs11 => ?_)
          refine r_aload_n h dX12_step_58 rfl 0 rfl ?_
          refine g_X12_460 h dX12_step_59 ht rC_86 ?_
          exact r_ret1 hr dX12_step_62 (hs11.1 _ _) hf
        · have hf := ite_f hc7 hf
          refine r_iconst h dX12_step_36 ?_
          exact r_ret1 hr dX12_step_37 (rIc rfl) hf
set_option maxRecDepth 20000 in
theorem b_Mo_along_78 {l : Launch} {D : va_G} {cs : Nat → ClassId} {aS aV : Nat} {A : Nat → Prop} {K : KT} {ad : Nat → Nat} {n : Nat} {nl : Nat → Nat → Bool} {out : Int × SS} (h : w_Cl l rm_Mo_along D cs aS aV A cX12_along 8 RX12 "along" K) (hr : w_Rt 0 cX12_along 0 0 (w_Po ad n nl out) K) (hw : w_WH n nl) (ht : 86 < n) {u1 : Nat} (pu1 : u1 < n) (pc1 : rC u1 = 14) (x2 : Int) (x5 : Int) (x6 : Int) (x7 : Int) (z2 : Int) (z3 : Int) (self16 : Int → Int → SS → OO) (hself16 : ∀ (x4 : Int) (x5 : Int) (τ : SS), rI x4 → rI x5 → self16 x4 x5 τ = some out → K ad n nl 0 0 16 [(0, .ref (ad 86)), (1, .ref (ad u1)), (2, .int (vI x2)), (4, .int (vI x4)), (5, .int (vI x5))] [] τ) (self37 : Int → SS → OO) (hself37 : ∀ (x7 : Int) (τ : SS), rI x7 → self37 x7 τ = some out → K ad n nl 0 0 37 [(0, .ref (ad 86)), (1, .ref (ad u1)), (2, .int (vI x2)), (5, .int (vI x5)), (6, .int (vI x6)), (7, .int (vI x7))] [] τ) (s0 : SS) (rx2 : rI x2) (rx5 : rI x5) (rx6 : rI x6) (rx7 : rI x7) (rz2 : rI z2) (rz3 : rI z3) (hf : j_Mo_along_78 u1 self16 self37 x2 x5 x6 x7 z2 z3 s0 = some out) : K ad n nl 0 0 78 [(0, .ref (ad 86)), (1, .ref (ad u1)), (2, .int (vI x2)), (5, .int (vI x5)), (6, .int (vI x6)), (7, .int (vI x7))] [.int (vI z3), .int (vI z2), .ref (ad 119), .ref (ad 86)] s0 := by
  unfold j_Mo_along_78 at hf
  have q119_0 := w_ref hw ht rC_86 (by decide) (k := 53) (by decide) rf_12_53
  refine r_rS h (fun hs0 => ?_)
  obtain ⟨r1, s1, hq1, hf⟩ := ob_some hf
  refine r_callV0 h [.ref (ad 119), .int (vI z2), .int (vI z3)] dX12_along_78 (fun hs => m_Mo_say hw ht q119_0.2 rC_119 rz2 rz3 hs hq1) ml_X12_428 cv_Mo_say rfl (co := 12) rfl (by decide) ht rC_86 ⟨rfl, rfl⟩ ⟨Nat.le_of_ble_eq_true rfl, Nat.le_of_ble_eq_true rfl⟩ ⟨Nat.le_of_ble_eq_true rfl, Nat.le_of_ble_eq_true rfl⟩ (Nat.le_of_ble_eq_true rfl) rfl (fun hr1 hs1 => ?_)
  refine r_aload_n h dX12_along_81 rfl 0 rfl ?_
  have hq2 := w_ref hw ht rC_86 (by decide) (k := 53) (by decide) rf_12_53
  refine g_X12_113 h dX12_along_82 ht rC_86 hq2.1 ?_
  obtain ⟨r3, s3, hq3, hf⟩ := ob_some hf
  refine r_callS2 h [.ref (ad 119)] dX12_along_85 (fun hs => m_Mo_isEnded hw hq2.2 rC_119 hs hq3) ml_X12_432 cv_Mo_isEnded rfl ⟨rfl, rfl⟩ ⟨Nat.le_of_ble_eq_true rfl, Nat.le_of_ble_eq_true rfl⟩ ⟨Nat.le_of_ble_eq_true rfl, Nat.le_of_ble_eq_true rfl⟩ (Nat.le_of_ble_eq_true rfl) rfl (fun hr3 hs3 => ?_)
  refine r_if_ne (tgt := 94) h dX12_along_88 (by decide) (rI_b hr3) (fun hc4 => ?_) (fun hc4 => ?_)
  · have hf := ite_f hc4 hf
    refine r_aload_n h dX12_along_94 rfl 0 rfl ?_
    refine r_iload h dX12_along_95 3 rfl ?_
    refine p_X12_487 h dX12_along_97 ht rC_86 rx5 ?_
    refine r_os hf (fun s5 hf => ?_)
    refine r_rS h (fun hs5 => ?_)
    refine r_aload_n h dX12_along_100 rfl 0 rfl ?_
    refine r_iload h dX12_along_101 5 rfl ?_
    refine p_X12_490 h dX12_along_103 ht rC_86 rx7 ?_
    refine r_os hf (fun s6 hf => ?_)
    refine r_rS h (fun hs6 => ?_)
    exact r_ret0 (x := 0) hr dX12_along_106 hf
  · have hf := ite_nf hc4 hf
    refine r_goto (tgt := 107) h dX12_along_91 (by decide) ?_
    refine r_iinc h [(7, .int (vI (iw (x7 + 1)))), (0, .ref (ad 86)), (1, .ref (ad u1)), (2, .int (vI x2)), (5, .int (vI x5)), (6, .int (vI x6))] dX12_along_107 5 rfl (by decide) rfl ?_
    refine r_goto (tgt := 37) h dX12_along_110 (by decide) ?_
    refine r_sub h [1, 2, 3, 4, 5, 0] rfl ?_
    exact hself37 (iw (x7 + 1)) s3 (rI_iw _) hf
set_option maxRecDepth 20000 in
theorem b_Mo_along_37 {l : Launch} {D : va_G} {cs : Nat → ClassId} {aS aV : Nat} {A : Nat → Prop} {K : KT} {ad : Nat → Nat} {n : Nat} {nl : Nat → Nat → Bool} {out : Int × SS} (h : w_Cl l rm_Mo_along D cs aS aV A cX12_along 8 RX12 "along" K) (hr : w_Rt 0 cX12_along 0 0 (w_Po ad n nl out) K) (hw : w_WH n nl) (ht : 86 < n) {u1 : Nat} (pu1 : u1 < n) (pc1 : rC u1 = 14) {y2 : Int} (ry2 : rI y2) {y5 : Int} (ry5 : rI y5) {y6 : Int} (ry6 : rI y6) (self16 : Int → Int → SS → OO) (hself16 : ∀ (x4 : Int) (x5 : Int) (τ : SS), rI x4 → rI x5 → self16 x4 x5 τ = some out → K ad n nl 0 0 16 [(0, .ref (ad 86)), (1, .ref (ad u1)), (2, .int (vI y2)), (4, .int (vI x4)), (5, .int (vI x5))] [] τ) : ∀ (fu : Nat) (x7 : Int) (s0 : SS), rI x7 → l_Mo_along_37 u1 self16 y2 y5 y6 fu x7 s0 = some out → K ad n nl 0 0 37 [(0, .ref (ad 86)), (1, .ref (ad u1)), (2, .int (vI y2)), (5, .int (vI y5)), (6, .int (vI y6)), (7, .int (vI x7))] [] s0 := by
  intro fu
  induction fu with
  | zero =>
    intro x7 s0 rx7 hf
    rw [l_Mo_along_37] at hf
    cases hf
  | succ fu ih =>
    intro x7 s0 rx7 hf
    rw [l_Mo_along_37] at hf
    refine r_rS h (fun hs0 => ?_)
    refine r_iload h dX12_along_37 5 rfl ?_
    refine r_aload_n h dX12_along_39 rfl 0 rfl ?_
    refine r_aload_n h dX12_along_40 rfl 1 rfl ?_
    refine r_iload h dX12_along_41 3 rfl ?_
    obtain ⟨hi1, hf⟩ := oc_some hf
    refine r_iald h dX12_along_43 pu1 pc1 ry5 rfl (j := (y5).toNat) rfl hi1 ?_
    obtain ⟨r2, s2, hq2, hf⟩ := ob_some hf
    refine r_callV1 h [.int (vI (gi s0 u1 ((y5).toNat)))] dX12_along_44 (fun hs => m_Mo_milesOf hw ht (hs0.1 _ _) hs hq2) ml_X12_451 cv_Mo_milesOf rfl (co := 12) rfl (by decide) ht rC_86 ⟨rfl, rfl⟩ ⟨Nat.le_of_ble_eq_true rfl, Nat.le_of_ble_eq_true rfl⟩ ⟨Nat.le_of_ble_eq_true rfl, Nat.le_of_ble_eq_true rfl⟩ (Nat.le_of_ble_eq_true rfl) rfl (fun hr2 hs2 => ?_)
    refine r_icmp_gt (tgt := 113) h dX12_along_47 (by decide) rx7 hr2 (fun hc3 => ?_) (fun hc3 => ?_)
    · have hf := ite_t hc3 hf
      refine r_iload h dX12_along_113 4 rfl ?_
      refine r_istore h [(4, .int (vI y6)), (0, .ref (ad 86)), (1, .ref (ad u1)), (2, .int (vI y2)), (5, .int (vI y5)), (6, .int (vI y6)), (7, .int (vI x7))] dX12_along_115 (by decide) rfl ?_
      refine r_iinc h [(5, .int (vI (iw (y5 + 1)))), (4, .int (vI y6)), (0, .ref (ad 86)), (1, .ref (ad u1)), (2, .int (vI y2)), (6, .int (vI y6)), (7, .int (vI x7))] dX12_along_117 4 rfl (by decide) rfl ?_
      refine r_goto (tgt := 16) h dX12_along_120 (by decide) ?_
      refine r_sub h [2, 3, 4, 1, 0] rfl ?_
      exact hself16 y6 (iw (y5 + 1)) s2 ry6 (rI_iw _) hf
    · have hf := ite_f hc3 hf
      refine r_aload_n h dX12_along_50 rfl 0 rfl ?_
      refine r_aload_n h dX12_along_51 rfl 0 rfl ?_
      have hq4 := w_ref hw ht rC_86 (by decide) (k := 53) (by decide) rf_12_53
      refine g_X12_113 h dX12_along_52 ht rC_86 hq4.1 ?_
      refine r_aload_n h dX12_along_55 rfl 1 rfl ?_
      refine r_iload h dX12_along_56 3 rfl ?_
      obtain ⟨hi5, hf⟩ := oc_some hf
      refine r_iald h dX12_along_58 pu1 pc1 ry5 rfl (j := (y5).toNat) rfl hi5 ?_
      refine r_iload h dX12_along_59 5 rfl ?_
      refine r_aload_n h dX12_along_61 rfl 0 rfl ?_
      refine r_aload_n h dX12_along_62 rfl 1 rfl ?_
      refine r_iload h dX12_along_63 3 rfl ?_
      obtain ⟨hi6, hf⟩ := oc_some hf
      refine r_iald h dX12_along_65 pu1 pc1 ry5 rfl (j := (y5).toNat) rfl hi6 ?_
      obtain ⟨r7, s7, hq7, hf⟩ := ob_some hf
      refine r_callV1 h [.int (vI (gi s2 u1 ((y5).toNat)))] dX12_along_66 (fun hs => m_Mo_milesOf hw ht (hs2.1 _ _) hs hq7) ml_X12_451 cv_Mo_milesOf rfl (co := 12) rfl (by decide) ht rC_86 ⟨rfl, rfl⟩ ⟨Nat.le_of_ble_eq_true rfl, Nat.le_of_ble_eq_true rfl⟩ ⟨Nat.le_of_ble_eq_true rfl, Nat.le_of_ble_eq_true rfl⟩ (Nat.le_of_ble_eq_true rfl) rfl (fun hr7 hs7 => ?_)
      refine r_icmp_ne (tgt := 77) h dX12_along_69 (by decide) rx7 hr7 (fun hc8 => ?_) (fun hc8 => ?_)
      · have hf := ite_f hc8 hf
        refine r_iconst h dX12_along_77 ?_
        exact b_Mo_along_78 h hr hw ht pu1 pc1 y2 y5 y6 x7 (gi s2 u1 ((y5).toNat)) (-1) self16 hself16 (l_Mo_along_37 u1 self16 y2 y5 y6 fu) ih s7 ry2 ry5 ry6 rx7 (hs2.1 _ _) (rIc rfl) hf
      · have hf := ite_nf hc8 hf
        refine r_iload h dX12_along_72 4 rfl ?_
        refine r_goto (tgt := 78) h dX12_along_74 (by decide) ?_
        exact b_Mo_along_78 h hr hw ht pu1 pc1 y2 y5 y6 x7 (gi s2 u1 ((y5).toNat)) y6 self16 hself16 (l_Mo_along_37 u1 self16 y2 y5 y6 fu) ih s7 ry2 ry5 ry6 rx7 (hs2.1 _ _) ry6 hf
set_option maxRecDepth 20000 in
theorem b_Mo_along_16 {l : Launch} {D : va_G} {cs : Nat → ClassId} {aS aV : Nat} {A : Nat → Prop} {K : KT} {ad : Nat → Nat} {n : Nat} {nl : Nat → Nat → Bool} {out : Int × SS} (h : w_Cl l rm_Mo_along D cs aS aV A cX12_along 8 RX12 "along" K) (hr : w_Rt 0 cX12_along 0 0 (w_Po ad n nl out) K) (hw : w_WH n nl) (ht : 86 < n) {u1 : Nat} (pu1 : u1 < n) (pc1 : rC u1 = 14) {y2 : Int} (ry2 : rI y2) : ∀ (fu : Nat) (x4 : Int) (x5 : Int) (s0 : SS), rI x4 → rI x5 → l_Mo_along_16 u1 y2 fu x4 x5 s0 = some out → K ad n nl 0 0 16 [(0, .ref (ad 86)), (1, .ref (ad u1)), (2, .int (vI y2)), (4, .int (vI x4)), (5, .int (vI x5))] [] s0 := by
  intro fu
  induction fu with
  | zero =>
    intro x4 x5 s0 rx4 rx5 hf
    rw [l_Mo_along_16] at hf
    cases hf
  | succ fu ih =>
    intro x4 x5 s0 rx4 rx5 hf
    rw [l_Mo_along_16] at hf
    refine r_rS h (fun hs0 => ?_)
    refine r_iload h dX12_along_16 4 rfl ?_
    refine r_iload_n h dX12_along_18 rfl 2 rfl ?_
    refine r_icmp_ge (tgt := 123) h dX12_along_19 (by decide) rx5 ry2 (fun hc1 => ?_) (fun hc1 => ?_)
    · have hf := ite_t hc1 hf
      exact r_ret0 (x := 0) hr dX12_along_123 hf
    · have hf := ite_f hc1 hf
      refine r_aload_n h dX12_along_22 rfl 0 rfl ?_
      refine r_aload_n h dX12_along_23 rfl 1 rfl ?_
      refine r_iload h dX12_along_24 4 rfl ?_
      obtain ⟨hi2, hf⟩ := oc_some hf
      refine r_iald h dX12_along_26 pu1 pc1 rx5 rfl (j := (x5).toNat) rfl hi2 ?_
      refine r_iload h dX12_along_27 3 rfl ?_
      obtain ⟨r3, s3, hq3, hf⟩ := ob_some hf
      refine r_callV1 h [.int (vI (gi s0 u1 ((x5).toNat))), .int (vI x4)] dX12_along_29 (fun hs => m_Mo_otherEnd hw ht (hs0.1 _ _) rx4 hs hq3) ml_X12_478 cv_Mo_otherEnd rfl (co := 12) rfl (by decide) ht rC_86 ⟨rfl, rfl⟩ ⟨Nat.le_of_ble_eq_true rfl, Nat.le_of_ble_eq_true rfl⟩ ⟨Nat.le_of_ble_eq_true rfl, Nat.le_of_ble_eq_true rfl⟩ (Nat.le_of_ble_eq_true rfl) rfl (fun hr3 hs3 => ?_)
      refine r_istore h [(6, .int (vI r3)), (0, .ref (ad 86)), (1, .ref (ad u1)), (2, .int (vI y2)), (4, .int (vI x4)), (5, .int (vI x5))] dX12_along_32 (by decide) rfl ?_
      refine r_iconst h dX12_along_34 ?_
      refine r_istore h [(7, .int (vI 1)), (6, .int (vI r3)), (0, .ref (ad 86)), (1, .ref (ad u1)), (2, .int (vI y2)), (4, .int (vI x4)), (5, .int (vI x5))] dX12_along_35 (by decide) rfl ?_
      refine r_sub h [2, 3, 4, 6, 1, 0] rfl ?_
      exact b_Mo_along_37 h hr hw ht pu1 pc1 ry2 rx5 hr3 (l_Mo_along_16 u1 y2 fu) ih FU 1 s3 (rIc rfl) hf
set_option maxRecDepth 20000 in
theorem m_Mo_along {l : Launch} {D : va_G} {cs : Nat → ClassId} {aS aV : Nat} {A : Nat → Prop} {ad : Nat → Nat} {n : Nat} {nl : Nat → Nat → Bool} {out : Int × SS} (hw : w_WH n nl) (ht : 86 < n) {u1 : Nat} (pu1 : u1 < n) (pc1 : rC u1 = 14) {a2 : Int} (ra2 : rI a2) {a3 : Int} (ra3 : rI a3) {s0 : SS} (hs0 : rS s0) (hf : f_Mo_along u1 a2 a3 s0 = some out) : w_MC l D cs aS aV A yX12_along cX12_along 8 0 rm_Mo_along ad n nl [.ref (ad 86), .ref (ad u1), .int (vI a2), .int (vI a3)] s0 (w_Po ad n nl out) := by
  refine w_MC_of (by decide +kernel) (by decide) hs0 (Nat.le_of_ble_eq_true rfl) (fun K h hr => ?_)
  refine r_lv (lv' := [(0, .ref (ad 86)), (1, .ref (ad u1)), (2, .int (vI a2)), (3, .int (vI a3))]) rfl ?_
  unfold f_Mo_along at hf
  refine r_rS h (fun hs0 => ?_)
  refine r_aload_n h dX12_along_0 rfl 0 rfl ?_
  refine r_iconst h dX12_along_1 ?_
  refine p_X12_487 h dX12_along_2 ht rC_86 (rIc rfl) ?_
  refine r_os hf (fun s1 hf => ?_)
  refine r_rS h (fun hs1 => ?_)
  refine r_aload_n h dX12_along_5 rfl 0 rfl ?_
  refine r_iconst h dX12_along_6 ?_
  refine p_X12_490 h dX12_along_7 ht rC_86 (rIc rfl) ?_
  refine r_os hf (fun s2 hf => ?_)
  refine r_rS h (fun hs2 => ?_)
  refine r_iload_n h dX12_along_10 rfl 3 rfl ?_
  refine r_istore h [(4, .int (vI a3)), (0, .ref (ad 86)), (1, .ref (ad u1)), (2, .int (vI a2)), (3, .int (vI a3))] dX12_along_11 (by decide) rfl ?_
  refine r_iconst h dX12_along_13 ?_
  refine r_istore h [(5, .int (vI 0)), (4, .int (vI a3)), (0, .ref (ad 86)), (1, .ref (ad u1)), (2, .int (vI a2)), (3, .int (vI a3))] dX12_along_14 (by decide) rfl ?_
  refine r_sub h [2, 3, 4, 1, 0] rfl ?_
  exact b_Mo_along_16 h hr hw ht pu1 pc1 ra2 FU a3 0 s2 ra3 (rIc rfl) hf
set_option maxRecDepth 20000 in
theorem m_Mo_walked {l : Launch} {D : va_G} {cs : Nat → ClassId} {aS aV : Nat} {A : Nat → Prop} {ad : Nat → Nat} {n : Nat} {nl : Nat → Nat → Bool} {out : Int × SS} (hw : w_WH n nl) (ht : 86 < n) {a1 : Int} (ra1 : rI a1) {a2 : Int} (ra2 : rI a2) {a3 : Int} (ra3 : rI a3) {a4 : Int} (ra4 : rI a4) {s0 : SS} (hs0 : rS s0) (hf : f_Mo_walked a1 a2 a3 a4 s0 = some out) : w_MC l D cs aS aV A yX12_walked cX12_walked 5 1 rm_Mo_walked ad n nl [.ref (ad 86), .int (vI a1), .int (vI a2), .int (vI a3), .int (vI a4)] s0 (w_Po ad n nl out) := by
  refine w_MC_of (by decide +kernel) (by decide) hs0 (Nat.le_of_ble_eq_true rfl) (fun K h hr => ?_)
  refine r_lv (lv' := [(0, .ref (ad 86)), (1, .int (vI a1)), (2, .int (vI a2)), (3, .int (vI a3)), (4, .int (vI a4))]) rfl ?_
  unfold f_Mo_walked at hf
  refine r_rS h (fun hs0 => ?_)
  refine r_aload_n h dX12_walked_0 rfl 0 rfl ?_
  refine r_iload_n h dX12_walked_1 rfl 1 rfl ?_
  refine r_iload_n h dX12_walked_2 rfl 2 rfl ?_
  refine r_iload_n h dX12_walked_3 rfl 3 rfl ?_
  obtain ⟨r1, s1, hq1, hf⟩ := ob_some hf
  refine r_callV2 h [.int (vI a1), .int (vI a2), .int (vI a3)] dX12_walked_4 (fun hs => m_Mo_isCouple hw ht ra1 ra2 ra3 hs hq1) ml_X12_436 cv_Mo_isCouple rfl (co := 12) rfl (by decide) ht rC_86 ⟨rfl, rfl⟩ ⟨Nat.le_of_ble_eq_true rfl, Nat.le_of_ble_eq_true rfl⟩ ⟨Nat.le_of_ble_eq_true rfl, Nat.le_of_ble_eq_true rfl⟩ (Nat.le_of_ble_eq_true rfl) rfl (fun hr1 hs1 => ?_)
  refine r_if_eq (tgt := 27) h dX12_walked_7 (by decide) (rI_b hr1) (fun hc2 => ?_) (fun hc2 => ?_)
  · have hf := ite_t hc2 hf
    refine r_bipush h dX12_walked_27 (by decide) ?_
    exact r_ret1 hr dX12_walked_29 (rIc rfl) hf
  · have hf := ite_f hc2 hf
    refine r_iload h dX12_walked_10 4 rfl ?_
    refine r_iconst h dX12_walked_12 ?_
    refine r_iconst h dX12_walked_13 ?_
    obtain ⟨r3, s3, hq3, hf⟩ := ob_some hf
    refine r_callS2 h [.int (vI a4), .int (vI 0), .int (vI 3)] dX12_walked_14 (fun hs => m_Mo_isIn hw ra4 (rIc rfl) (rIc rfl) hs hq3) ml_X12_400 cv_Mo_isIn rfl ⟨rfl, rfl⟩ ⟨Nat.le_of_ble_eq_true rfl, Nat.le_of_ble_eq_true rfl⟩ ⟨Nat.le_of_ble_eq_true rfl, Nat.le_of_ble_eq_true rfl⟩ (Nat.le_of_ble_eq_true rfl) rfl (fun hr3 hs3 => ?_)
    refine r_if_eq (tgt := 27) h dX12_walked_17 (by decide) (rI_b hr3) (fun hc4 => ?_) (fun hc4 => ?_)
    · have hf := ite_t hc4 hf
      refine r_bipush h dX12_walked_27 (by decide) ?_
      exact r_ret1 hr dX12_walked_29 (rIc rfl) hf
    · have hf := ite_f hc4 hf
      refine r_aload_n h dX12_walked_20 rfl 0 rfl ?_
      refine g_X12_125 h dX12_walked_21 ht rC_86 ?_
      refine r_if_ge (tgt := 30) h dX12_walked_24 (by decide) (hs3.1 _ _) (fun hc5 => ?_) (fun hc5 => ?_)
      · have hf := ite_t hc5 hf
        refine r_aload_n h dX12_walked_30 rfl 0 rfl ?_
        refine r_aload_n h dX12_walked_31 rfl 0 rfl ?_
        have hq6 := w_ref hw ht rC_86 (by decide) (k := 53) (by decide) rf_12_53
        refine g_X12_113 h dX12_walked_32 ht rC_86 hq6.1 ?_
        refine r_iload_n h dX12_walked_35 rfl 1 rfl ?_
        refine r_iload_n h dX12_walked_36 rfl 2 rfl ?_
        refine r_iload_n h dX12_walked_37 rfl 3 rfl ?_
        obtain ⟨r7, s7, hq7, hf⟩ := ob_some hf
        refine r_callV0 h [.ref (ad 119), .int (vI a1), .int (vI a2), .int (vI a3)] dX12_walked_38 (fun hs => m_Mo_begin hw ht hq6.2 rC_119 ra1 ra2 ra3 hs hq7) ml_X12_424 cv_Mo_begin rfl (co := 12) rfl (by decide) ht rC_86 ⟨rfl, rfl⟩ ⟨Nat.le_of_ble_eq_true rfl, Nat.le_of_ble_eq_true rfl⟩ ⟨Nat.le_of_ble_eq_true rfl, Nat.le_of_ble_eq_true rfl⟩ (Nat.le_of_ble_eq_true rfl) rfl (fun hr7 hs7 => ?_)
        refine r_aload_n h dX12_walked_41 rfl 0 rfl ?_
        refine r_aload_n h dX12_walked_42 rfl 0 rfl ?_
        have hq8 := w_ref hw ht rC_86 (by decide) (k := 58) (by decide) rf_12_58
        refine g_X12_119 h dX12_walked_43 ht rC_86 hq8.1 ?_
        refine r_aload_n h dX12_walked_46 rfl 0 rfl ?_
        refine g_X12_460 h dX12_walked_47 ht rC_86 ?_
        refine r_aload_n h dX12_walked_50 rfl 0 rfl ?_
        refine g_X12_125 h dX12_walked_51 ht rC_86 ?_
        obtain ⟨r9, s9, hq9, hf⟩ := ob_some hf
        refine r_callV0 h [.ref (ad 121), .int (vI (gi s7 86 61)), .int (vI (gi s7 86 60))] dX12_walked_54 (fun hs => m_Mo_along hw ht hq8.2 rC_121 (hs7.1 _ _) (hs7.1 _ _) hs hq9) ml_X12_493 cv_Mo_along rfl (co := 12) rfl (by decide) ht rC_86 ⟨rfl, rfl⟩ ⟨Nat.le_of_ble_eq_true rfl, Nat.le_of_ble_eq_true rfl⟩ ⟨Nat.le_of_ble_eq_true rfl, Nat.le_of_ble_eq_true rfl⟩ (Nat.le_of_ble_eq_true rfl) rfl (fun hr9 hs9 => ?_)
        refine r_iload h dX12_walked_57 4 rfl ?_
        refine r_iconst h dX12_walked_59 ?_
        refine r_icmp_ne (tgt := 71) h dX12_walked_60 (by decide) ra4 (rIc rfl) (fun hc10 => ?_) (fun hc10 => ?_)
        · have hf := ite_f hc10 hf
          refine r_aload_n h dX12_walked_71 rfl 0 rfl ?_
          refine g_X12_487 h dX12_walked_72 ht rC_86 ?_
          refine r_if_ge (tgt := 82) h dX12_walked_75 (by decide) (hs9.1 _ _) (fun hc11 => ?_) (fun hc11 => ?_)
          · have hf := ite_t hc11 hf
            refine r_iload h dX12_walked_82 4 rfl ?_
            refine r_if_ne (tgt := 97) h dX12_walked_84 (by decide) ra4 (fun hc12 => ?_) (fun hc12 => ?_)
            · have hf := ite_f hc12 hf
              refine r_iload h dX12_walked_97 4 rfl ?_
              refine r_iconst h dX12_walked_99 ?_
              refine r_icmp_ne (tgt := 110) h dX12_walked_100 (by decide) ra4 (rIc rfl) (fun hc13 => ?_) (fun hc13 => ?_)
              · have hf := ite_f hc13 hf
                refine r_aload_n h dX12_walked_110 rfl 0 rfl ?_
                refine g_X12_490 h dX12_walked_111 ht rC_86 ?_
                exact r_ret1 hr dX12_walked_114 (hs9.1 _ _) hf
              · have hf := ite_nf hc13 hf
                refine r_aload_n h dX12_walked_103 rfl 0 rfl ?_
                refine g_X12_487 h dX12_walked_104 ht rC_86 ?_
                refine r_goto (tgt := 114) h dX12_walked_107 (by decide) ?_
                exact r_ret1 hr dX12_walked_114 (hs9.1 _ _) hf
            · have hf := ite_nf hc12 hf
              refine r_aload_n h dX12_walked_87 rfl 0 rfl ?_
              have hq14 := w_ref hw ht rC_86 (by decide) (k := 53) (by decide) rf_12_53
              refine g_X12_113 h dX12_walked_88 ht rC_86 hq14.1 ?_
              refine r_bipush h dX12_walked_91 (by decide) ?_
              refine r_iald h dX12_walked_93 hq14.2 rC_119 (rIc rfl) (N := 44) (by rw [rN_119]; rfl) (j := 19) rfl (by decide) ?_
              refine r_goto (tgt := 114) h dX12_walked_94 (by decide) ?_
              exact r_ret1 hr dX12_walked_114 (hs9.1 _ _) hf
          · have hf := ite_f hc11 hf
            refine r_iconst h dX12_walked_78 ?_
            refine r_goto (tgt := 114) h dX12_walked_79 (by decide) ?_
            exact r_ret1 hr dX12_walked_114 (rIc rfl) hf
        · have hf := ite_nf hc10 hf
          refine r_aload_n h dX12_walked_63 rfl 0 rfl ?_
          have hq15 := w_ref hw ht rC_86 (by decide) (k := 53) (by decide) rf_12_53
          refine g_X12_113 h dX12_walked_64 ht rC_86 hq15.1 ?_
          refine r_bipush h dX12_walked_67 (by decide) ?_
          refine r_iald h dX12_walked_69 hq15.2 rC_119 (rIc rfl) (N := 44) (by rw [rN_119]; rfl) (j := 20) rfl (by decide) ?_
          exact r_ret1 hr dX12_walked_70 (hs9.1 _ _) hf
      · have hf := ite_f hc5 hf
        refine r_bipush h dX12_walked_27 (by decide) ?_
        exact r_ret1 hr dX12_walked_29 (rIc rfl) hf
set_option maxRecDepth 20000 in
theorem b_Mo_layFar_25 {l : Launch} {D : va_G} {cs : Nat → ClassId} {aS aV : Nat} {A : Nat → Prop} {K : KT} {ad : Nat → Nat} {n : Nat} {nl : Nat → Nat → Bool} {out : Int × SS} (h : w_Cl l rm_Mo_layFar D cs aS aV A cX12_layFar 4 RX12 "layFar" K) (hr : w_Rt 0 cX12_layFar 0 0 (w_Po ad n nl out) K) (hw : w_WH n nl) (ht : 86 < n) (x1 : Int) (x2 : Int) (z1 : Int) (z2 : Int) (self2 : Int → SS → OO) (hself2 : ∀ (x2 : Int) (τ : SS), rI x2 → self2 x2 τ = some out → K ad n nl 0 0 2 [(0, .ref (ad 86)), (1, .int (vI x1)), (2, .int (vI x2))] [] τ) (s0 : SS) (rx1 : rI x1) (rx2 : rI x2) (rz1 : rI z1) (rz2 : rI z2) (hf : j_Mo_layFar_25 self2 x1 x2 z1 z2 s0 = some out) : K ad n nl 0 0 25 [(0, .ref (ad 86)), (1, .int (vI x1)), (2, .int (vI x2))] [.int (vI z2), .int (vI z1), .ref (ad 123)] s0 := by
  unfold j_Mo_layFar_25 at hf
  have q123_0 := w_ref hw ht rC_86 (by decide) (k := 65) (by decide) rf_12_65
  refine r_rS h (fun hs0 => ?_)
  obtain ⟨hi1, hf⟩ := oc_some hf
  refine r_iast h dX12_layFar_25 q123_0.2 rC_123 rz1 (N := 8) (by rw [rN_123]; rfl) (j := (z1).toNat) rfl hi1 rz2 ?_
  refine r_os hf (fun s2 hf => ?_)
  refine r_rS h (fun hs2 => ?_)
  refine r_iinc h [(2, .int (vI (iw (x2 + 1)))), (0, .ref (ad 86)), (1, .int (vI x1))] dX12_layFar_26 2 rfl (by decide) rfl ?_
  refine r_goto (tgt := 2) h dX12_layFar_29 (by decide) ?_
  refine r_sub h [1, 2, 0] rfl ?_
  exact hself2 (iw (x2 + 1)) s2 (rI_iw _) hf
set_option maxRecDepth 20000 in
theorem b_Mo_layFar_110 {l : Launch} {D : va_G} {cs : Nat → ClassId} {aS aV : Nat} {A : Nat → Prop} {K : KT} {ad : Nat → Nat} {n : Nat} {nl : Nat → Nat → Bool} {out : Int × SS} (h : w_Cl l rm_Mo_layFar D cs aS aV A cX12_layFar 4 RX12 "layFar" K) (hr : w_Rt 0 cX12_layFar 0 0 (w_Po ad n nl out) K) (hw : w_WH n nl) (ht : 86 < n) (x2 : Int) (x3 : Int) (self34 : Int → SS → OO) (hself34 : ∀ (x2 : Int) (τ : SS), rI x2 → self34 x2 τ = some out → K ad n nl 0 0 34 [(0, .ref (ad 86)), (2, .int (vI x2))] [] τ) (self42 : Int → SS → OO) (hself42 : ∀ (x3 : Int) (τ : SS), rI x3 → self42 x3 τ = some out → K ad n nl 0 0 42 [(0, .ref (ad 86)), (2, .int (vI x2)), (3, .int (vI x3))] [] τ) (s0 : SS) (rx2 : rI x2) (rx3 : rI x3) (hf : j_Mo_layFar_110 self34 self42 x2 x3 s0 = some out) : K ad n nl 0 0 110 [(0, .ref (ad 86)), (2, .int (vI x2)), (3, .int (vI x3))] [] s0 := by
  unfold j_Mo_layFar_110 at hf
  refine r_rS h (fun hs0 => ?_)
  refine r_aload_n h dX12_layFar_110 rfl 0 rfl ?_
  have hq1 := w_ref hw ht rC_86 (by decide) (k := 65) (by decide) rf_12_65
  refine g_X12_128 h dX12_layFar_111 ht rC_86 hq1.1 ?_
  refine r_aload_n h dX12_layFar_114 rfl 0 rfl ?_
  refine r_iload_n h dX12_layFar_115 rfl 2 rfl ?_
  obtain ⟨r2, s2, hq2, hf⟩ := ob_some hf
  refine r_callV1 h [.int (vI x3)] dX12_layFar_116 (fun hs => m_Mo_fromOf hw ht rx3 hs hq2) ml_X12_445 cv_Mo_fromOf rfl (co := 12) rfl (by decide) ht rC_86 ⟨rfl, rfl⟩ ⟨Nat.le_of_ble_eq_true rfl, Nat.le_of_ble_eq_true rfl⟩ ⟨Nat.le_of_ble_eq_true rfl, Nat.le_of_ble_eq_true rfl⟩ (Nat.le_of_ble_eq_true rfl) rfl (fun hr2 hs2 => ?_)
  obtain ⟨hi3, hf⟩ := oc_some hf
  refine r_iald h dX12_layFar_119 hq1.2 rC_123 hr2 (N := 8) (by rw [rN_123]; rfl) (j := (r2).toNat) rfl hi3 ?_
  refine r_aload_n h dX12_layFar_120 rfl 0 rfl ?_
  refine r_iload_n h dX12_layFar_121 rfl 2 rfl ?_
  obtain ⟨r4, s4, hq4, hf⟩ := ob_some hf
  refine r_callV1 h [.int (vI x3)] dX12_layFar_122 (fun hs => m_Mo_milesOf hw ht rx3 hs hq4) ml_X12_451 cv_Mo_milesOf rfl (co := 12) rfl (by decide) ht rC_86 ⟨rfl, rfl⟩ ⟨Nat.le_of_ble_eq_true rfl, Nat.le_of_ble_eq_true rfl⟩ ⟨Nat.le_of_ble_eq_true rfl, Nat.le_of_ble_eq_true rfl⟩ (Nat.le_of_ble_eq_true rfl) rfl (fun hr4 hs4 => ?_)
  refine r_iadd h dX12_layFar_125 ?_
  refine r_aload_n h dX12_layFar_126 rfl 0 rfl ?_
  have hq5 := w_ref hw ht rC_86 (by decide) (k := 65) (by decide) rf_12_65
  refine g_X12_128 h dX12_layFar_127 ht rC_86 hq5.1 ?_
  refine r_aload_n h dX12_layFar_130 rfl 0 rfl ?_
  refine r_iload_n h dX12_layFar_131 rfl 2 rfl ?_
  obtain ⟨r6, s6, hq6, hf⟩ := ob_some hf
  refine r_callV1 h [.int (vI x3)] dX12_layFar_132 (fun hs => m_Mo_toOf hw ht rx3 hs hq6) ml_X12_448 cv_Mo_toOf rfl (co := 12) rfl (by decide) ht rC_86 ⟨rfl, rfl⟩ ⟨Nat.le_of_ble_eq_true rfl, Nat.le_of_ble_eq_true rfl⟩ ⟨Nat.le_of_ble_eq_true rfl, Nat.le_of_ble_eq_true rfl⟩ (Nat.le_of_ble_eq_true rfl) rfl (fun hr6 hs6 => ?_)
  obtain ⟨hi7, hf⟩ := oc_some hf
  refine r_iald h dX12_layFar_135 hq5.2 rC_123 hr6 (N := 8) (by rw [rN_123]; rfl) (j := (r6).toNat) rfl hi7 ?_
  refine r_icmp_ge (tgt := 165) h dX12_layFar_136 (by decide) (rI_iw _) (hs6.1 _ _) (fun hc8 => ?_) (fun hc8 => ?_)
  · have hf := ite_t hc8 hf
    refine r_iinc h [(3, .int (vI (iw (x3 + 1)))), (0, .ref (ad 86)), (2, .int (vI x2))] dX12_layFar_165 2 rfl (by decide) rfl ?_
    refine r_goto (tgt := 42) h dX12_layFar_168 (by decide) ?_
    refine r_sub h [1, 2, 0] rfl ?_
    exact hself42 (iw (x3 + 1)) s6 (rI_iw _) hf
  · have hf := ite_f hc8 hf
    refine r_aload_n h dX12_layFar_139 rfl 0 rfl ?_
    have hq9 := w_ref hw ht rC_86 (by decide) (k := 65) (by decide) rf_12_65
    refine g_X12_128 h dX12_layFar_140 ht rC_86 hq9.1 ?_
    refine r_aload_n h dX12_layFar_143 rfl 0 rfl ?_
    refine r_iload_n h dX12_layFar_144 rfl 2 rfl ?_
    obtain ⟨r10, s10, hq10, hf⟩ := ob_some hf
    refine r_callV1 h [.int (vI x3)] dX12_layFar_145 (fun hs => m_Mo_toOf hw ht rx3 hs hq10) ml_X12_448 cv_Mo_toOf rfl (co := 12) rfl (by decide) ht rC_86 ⟨rfl, rfl⟩ ⟨Nat.le_of_ble_eq_true rfl, Nat.le_of_ble_eq_true rfl⟩ ⟨Nat.le_of_ble_eq_true rfl, Nat.le_of_ble_eq_true rfl⟩ (Nat.le_of_ble_eq_true rfl) rfl (fun hr10 hs10 => ?_)
    refine r_aload_n h dX12_layFar_148 rfl 0 rfl ?_
    have hq11 := w_ref hw ht rC_86 (by decide) (k := 65) (by decide) rf_12_65
    refine g_X12_128 h dX12_layFar_149 ht rC_86 hq11.1 ?_
    refine r_aload_n h dX12_layFar_152 rfl 0 rfl ?_
    refine r_iload_n h dX12_layFar_153 rfl 2 rfl ?_
    obtain ⟨r12, s12, hq12, hf⟩ := ob_some hf
    refine r_callV1 h [.int (vI x3)] dX12_layFar_154 (fun hs => m_Mo_fromOf hw ht rx3 hs hq12) ml_X12_445 cv_Mo_fromOf rfl (co := 12) rfl (by decide) ht rC_86 ⟨rfl, rfl⟩ ⟨Nat.le_of_ble_eq_true rfl, Nat.le_of_ble_eq_true rfl⟩ ⟨Nat.le_of_ble_eq_true rfl, Nat.le_of_ble_eq_true rfl⟩ (Nat.le_of_ble_eq_true rfl) rfl (fun hr12 hs12 => ?_)
    obtain ⟨hi13, hf⟩ := oc_some hf
    refine r_iald h dX12_layFar_157 hq11.2 rC_123 hr12 (N := 8) (by rw [rN_123]; rfl) (j := (r12).toNat) rfl hi13 ?_
    refine r_aload_n h dX12_layFar_158 rfl 0 rfl ?_
    refine r_iload_n h dX12_layFar_159 rfl 2 rfl ?_
    obtain ⟨r14, s14, hq14, hf⟩ := ob_some hf
    refine r_callV1 h [.int (vI x3)] dX12_layFar_160 (fun hs => m_Mo_milesOf hw ht rx3 hs hq14) ml_X12_451 cv_Mo_milesOf rfl (co := 12) rfl (by decide) ht rC_86 ⟨rfl, rfl⟩ ⟨Nat.le_of_ble_eq_true rfl, Nat.le_of_ble_eq_true rfl⟩ ⟨Nat.le_of_ble_eq_true rfl, Nat.le_of_ble_eq_true rfl⟩ (Nat.le_of_ble_eq_true rfl) rfl (fun hr14 hs14 => ?_)
    refine r_iadd h dX12_layFar_163 ?_
    obtain ⟨hi15, hf⟩ := oc_some hf
    refine r_iast h dX12_layFar_164 hq9.2 rC_123 hr10 (N := 8) (by rw [rN_123]; rfl) (j := (r10).toNat) rfl hi15 (rI_iw _) ?_
    refine r_os hf (fun s16 hf => ?_)
    refine r_rS h (fun hs16 => ?_)
    refine r_iinc h [(3, .int (vI (iw (x3 + 1)))), (0, .ref (ad 86)), (2, .int (vI x2))] dX12_layFar_165 2 rfl (by decide) rfl ?_
    refine r_goto (tgt := 42) h dX12_layFar_168 (by decide) ?_
    refine r_sub h [1, 2, 0] rfl ?_
    exact hself42 (iw (x3 + 1)) s16 (rI_iw _) hf
set_option maxRecDepth 20000 in
theorem b_Mo_layFar_42 {l : Launch} {D : va_G} {cs : Nat → ClassId} {aS aV : Nat} {A : Nat → Prop} {K : KT} {ad : Nat → Nat} {n : Nat} {nl : Nat → Nat → Bool} {out : Int × SS} (h : w_Cl l rm_Mo_layFar D cs aS aV A cX12_layFar 4 RX12 "layFar" K) (hr : w_Rt 0 cX12_layFar 0 0 (w_Po ad n nl out) K) (hw : w_WH n nl) (ht : 86 < n) {y2 : Int} (ry2 : rI y2) (self34 : Int → SS → OO) (hself34 : ∀ (x2 : Int) (τ : SS), rI x2 → self34 x2 τ = some out → K ad n nl 0 0 34 [(0, .ref (ad 86)), (2, .int (vI x2))] [] τ) : ∀ (fu : Nat) (x3 : Int) (s0 : SS), rI x3 → l_Mo_layFar_42 self34 y2 fu x3 s0 = some out → K ad n nl 0 0 42 [(0, .ref (ad 86)), (2, .int (vI y2)), (3, .int (vI x3))] [] s0 := by
  intro fu
  induction fu with
  | zero =>
    intro x3 s0 rx3 hf
    rw [l_Mo_layFar_42] at hf
    cases hf
  | succ fu ih =>
    intro x3 s0 rx3 hf
    rw [l_Mo_layFar_42] at hf
    refine r_rS h (fun hs0 => ?_)
    refine r_iload_n h dX12_layFar_42 rfl 2 rfl ?_
    refine r_aload_n h dX12_layFar_43 rfl 0 rfl ?_
    have hq1 := w_ref hw ht rC_86 (by decide) (k := 12) (by decide) rf_12_12
    refine g_X12_24 h dX12_layFar_44 ht rC_86 hq1.1 ?_
    refine r_aload_n h dX12_layFar_47 rfl 0 rfl ?_
    refine g_X12_295 h dX12_layFar_48 ht rC_86 ?_
    obtain ⟨hi2, hf⟩ := oc_some hf
    refine r_iald h dX12_layFar_51 hq1.2 rC_90 (hs0.1 _ _) (N := 2) (by rw [rN_90]; rfl) (j := (gi s0 86 40).toNat) rfl hi2 ?_
    refine r_icmp_ge (tgt := 171) h dX12_layFar_52 (by decide) rx3 (hs0.1 _ _) (fun hc3 => ?_) (fun hc3 => ?_)
    · have hf := ite_t hc3 hf
      refine r_iinc h [(2, .int (vI (iw (y2 + 1)))), (0, .ref (ad 86)), (3, .int (vI x3))] dX12_layFar_171 1 rfl (by decide) rfl ?_
      refine r_goto (tgt := 34) h dX12_layFar_174 (by decide) ?_
      refine r_sub h [1, 0] rfl ?_
      exact hself34 (iw (y2 + 1)) s0 (rI_iw _) hf
    · have hf := ite_f hc3 hf
      refine r_aload_n h dX12_layFar_55 rfl 0 rfl ?_
      have hq4 := w_ref hw ht rC_86 (by decide) (k := 65) (by decide) rf_12_65
      refine g_X12_128 h dX12_layFar_56 ht rC_86 hq4.1 ?_
      refine r_aload_n h dX12_layFar_59 rfl 0 rfl ?_
      refine r_iload_n h dX12_layFar_60 rfl 2 rfl ?_
      obtain ⟨r5, s5, hq5, hf⟩ := ob_some hf
      refine r_callV1 h [.int (vI x3)] dX12_layFar_61 (fun hs => m_Mo_toOf hw ht rx3 hs hq5) ml_X12_448 cv_Mo_toOf rfl (co := 12) rfl (by decide) ht rC_86 ⟨rfl, rfl⟩ ⟨Nat.le_of_ble_eq_true rfl, Nat.le_of_ble_eq_true rfl⟩ ⟨Nat.le_of_ble_eq_true rfl, Nat.le_of_ble_eq_true rfl⟩ (Nat.le_of_ble_eq_true rfl) rfl (fun hr5 hs5 => ?_)
      obtain ⟨hi6, hf⟩ := oc_some hf
      refine r_iald h dX12_layFar_64 hq4.2 rC_123 hr5 (N := 8) (by rw [rN_123]; rfl) (j := (r5).toNat) rfl hi6 ?_
      refine r_aload_n h dX12_layFar_65 rfl 0 rfl ?_
      refine r_iload_n h dX12_layFar_66 rfl 2 rfl ?_
      obtain ⟨r7, s7, hq7, hf⟩ := ob_some hf
      refine r_callV1 h [.int (vI x3)] dX12_layFar_67 (fun hs => m_Mo_milesOf hw ht rx3 hs hq7) ml_X12_451 cv_Mo_milesOf rfl (co := 12) rfl (by decide) ht rC_86 ⟨rfl, rfl⟩ ⟨Nat.le_of_ble_eq_true rfl, Nat.le_of_ble_eq_true rfl⟩ ⟨Nat.le_of_ble_eq_true rfl, Nat.le_of_ble_eq_true rfl⟩ (Nat.le_of_ble_eq_true rfl) rfl (fun hr7 hs7 => ?_)
      refine r_iadd h dX12_layFar_70 ?_
      refine r_aload_n h dX12_layFar_71 rfl 0 rfl ?_
      have hq8 := w_ref hw ht rC_86 (by decide) (k := 65) (by decide) rf_12_65
      refine g_X12_128 h dX12_layFar_72 ht rC_86 hq8.1 ?_
      refine r_aload_n h dX12_layFar_75 rfl 0 rfl ?_
      refine r_iload_n h dX12_layFar_76 rfl 2 rfl ?_
      obtain ⟨r9, s9, hq9, hf⟩ := ob_some hf
      refine r_callV1 h [.int (vI x3)] dX12_layFar_77 (fun hs => m_Mo_fromOf hw ht rx3 hs hq9) ml_X12_445 cv_Mo_fromOf rfl (co := 12) rfl (by decide) ht rC_86 ⟨rfl, rfl⟩ ⟨Nat.le_of_ble_eq_true rfl, Nat.le_of_ble_eq_true rfl⟩ ⟨Nat.le_of_ble_eq_true rfl, Nat.le_of_ble_eq_true rfl⟩ (Nat.le_of_ble_eq_true rfl) rfl (fun hr9 hs9 => ?_)
      obtain ⟨hi10, hf⟩ := oc_some hf
      refine r_iald h dX12_layFar_80 hq8.2 rC_123 hr9 (N := 8) (by rw [rN_123]; rfl) (j := (r9).toNat) rfl hi10 ?_
      refine r_icmp_ge (tgt := 110) h dX12_layFar_81 (by decide) (rI_iw _) (hs9.1 _ _) (fun hc11 => ?_) (fun hc11 => ?_)
      · have hf := ite_t hc11 hf
        exact b_Mo_layFar_110 h hr hw ht y2 x3 self34 hself34 (l_Mo_layFar_42 self34 y2 fu) ih s9 ry2 rx3 hf
      · have hf := ite_f hc11 hf
        refine r_aload_n h dX12_layFar_84 rfl 0 rfl ?_
        have hq12 := w_ref hw ht rC_86 (by decide) (k := 65) (by decide) rf_12_65
        refine g_X12_128 h dX12_layFar_85 ht rC_86 hq12.1 ?_
        refine r_aload_n h dX12_layFar_88 rfl 0 rfl ?_
        refine r_iload_n h dX12_layFar_89 rfl 2 rfl ?_
        obtain ⟨r13, s13, hq13, hf⟩ := ob_some hf
        refine r_callV1 h [.int (vI x3)] dX12_layFar_90 (fun hs => m_Mo_fromOf hw ht rx3 hs hq13) ml_X12_445 cv_Mo_fromOf rfl (co := 12) rfl (by decide) ht rC_86 ⟨rfl, rfl⟩ ⟨Nat.le_of_ble_eq_true rfl, Nat.le_of_ble_eq_true rfl⟩ ⟨Nat.le_of_ble_eq_true rfl, Nat.le_of_ble_eq_true rfl⟩ (Nat.le_of_ble_eq_true rfl) rfl (fun hr13 hs13 => ?_)
        refine r_aload_n h dX12_layFar_93 rfl 0 rfl ?_
        have hq14 := w_ref hw ht rC_86 (by decide) (k := 65) (by decide) rf_12_65
        refine g_X12_128 h dX12_layFar_94 ht rC_86 hq14.1 ?_
        refine r_aload_n h dX12_layFar_97 rfl 0 rfl ?_
        refine r_iload_n h dX12_layFar_98 rfl 2 rfl ?_
        obtain ⟨r15, s15, hq15, hf⟩ := ob_some hf
        refine r_callV1 h [.int (vI x3)] dX12_layFar_99 (fun hs => m_Mo_toOf hw ht rx3 hs hq15) ml_X12_448 cv_Mo_toOf rfl (co := 12) rfl (by decide) ht rC_86 ⟨rfl, rfl⟩ ⟨Nat.le_of_ble_eq_true rfl, Nat.le_of_ble_eq_true rfl⟩ ⟨Nat.le_of_ble_eq_true rfl, Nat.le_of_ble_eq_true rfl⟩ (Nat.le_of_ble_eq_true rfl) rfl (fun hr15 hs15 => ?_)
        obtain ⟨hi16, hf⟩ := oc_some hf
        refine r_iald h dX12_layFar_102 hq14.2 rC_123 hr15 (N := 8) (by rw [rN_123]; rfl) (j := (r15).toNat) rfl hi16 ?_
        refine r_aload_n h dX12_layFar_103 rfl 0 rfl ?_
        refine r_iload_n h dX12_layFar_104 rfl 2 rfl ?_
        obtain ⟨r17, s17, hq17, hf⟩ := ob_some hf
        refine r_callV1 h [.int (vI x3)] dX12_layFar_105 (fun hs => m_Mo_milesOf hw ht rx3 hs hq17) ml_X12_451 cv_Mo_milesOf rfl (co := 12) rfl (by decide) ht rC_86 ⟨rfl, rfl⟩ ⟨Nat.le_of_ble_eq_true rfl, Nat.le_of_ble_eq_true rfl⟩ ⟨Nat.le_of_ble_eq_true rfl, Nat.le_of_ble_eq_true rfl⟩ (Nat.le_of_ble_eq_true rfl) rfl (fun hr17 hs17 => ?_)
        refine r_iadd h dX12_layFar_108 ?_
        obtain ⟨hi18, hf⟩ := oc_some hf
        refine r_iast h dX12_layFar_109 hq12.2 rC_123 hr13 (N := 8) (by rw [rN_123]; rfl) (j := (r13).toNat) rfl hi18 (rI_iw _) ?_
        refine r_os hf (fun s19 hf => ?_)
        refine r_rS h (fun hs19 => ?_)
        exact b_Mo_layFar_110 h hr hw ht y2 x3 self34 hself34 (l_Mo_layFar_42 self34 y2 fu) ih s19 ry2 rx3 hf
set_option maxRecDepth 20000 in
theorem b_Mo_layFar_34 {l : Launch} {D : va_G} {cs : Nat → ClassId} {aS aV : Nat} {A : Nat → Prop} {K : KT} {ad : Nat → Nat} {n : Nat} {nl : Nat → Nat → Bool} {out : Int × SS} (h : w_Cl l rm_Mo_layFar D cs aS aV A cX12_layFar 4 RX12 "layFar" K) (hr : w_Rt 0 cX12_layFar 0 0 (w_Po ad n nl out) K) (hw : w_WH n nl) (ht : 86 < n) : ∀ (fu : Nat) (x2 : Int) (s0 : SS), rI x2 → l_Mo_layFar_34 fu x2 s0 = some out → K ad n nl 0 0 34 [(0, .ref (ad 86)), (2, .int (vI x2))] [] s0 := by
  intro fu
  induction fu with
  | zero =>
    intro x2 s0 rx2 hf
    rw [l_Mo_layFar_34] at hf
    cases hf
  | succ fu ih =>
    intro x2 s0 rx2 hf
    rw [l_Mo_layFar_34] at hf
    refine r_rS h (fun hs0 => ?_)
    refine r_iload_n h dX12_layFar_34 rfl 1 rfl ?_
    refine r_bipush h dX12_layFar_35 (by decide) ?_
    refine r_icmp_ge (tgt := 177) h dX12_layFar_37 (by decide) rx2 (rIc rfl) (fun hc1 => ?_) (fun hc1 => ?_)
    · have hf := ite_t hc1 hf
      exact r_ret0 (x := 0) hr dX12_layFar_177 hf
    · have hf := ite_f hc1 hf
      refine r_iconst h dX12_layFar_40 ?_
      refine r_istore_n h [(3, .int (vI 0)), (0, .ref (ad 86)), (2, .int (vI x2))] dX12_layFar_41 rfl (by decide) rfl ?_
      refine r_sub h [1, 2, 0] rfl ?_
      exact b_Mo_layFar_42 h hr hw ht rx2 (l_Mo_layFar_34 fu) ih FU 0 s0 (rIc rfl) hf
set_option maxRecDepth 20000 in
theorem b_Mo_layFar_2 {l : Launch} {D : va_G} {cs : Nat → ClassId} {aS aV : Nat} {A : Nat → Prop} {K : KT} {ad : Nat → Nat} {n : Nat} {nl : Nat → Nat → Bool} {out : Int × SS} (h : w_Cl l rm_Mo_layFar D cs aS aV A cX12_layFar 4 RX12 "layFar" K) (hr : w_Rt 0 cX12_layFar 0 0 (w_Po ad n nl out) K) (hw : w_WH n nl) (ht : 86 < n) {y1 : Int} (ry1 : rI y1) : ∀ (fu : Nat) (x2 : Int) (s0 : SS), rI x2 → l_Mo_layFar_2 y1 fu x2 s0 = some out → K ad n nl 0 0 2 [(0, .ref (ad 86)), (1, .int (vI y1)), (2, .int (vI x2))] [] s0 := by
  intro fu
  induction fu with
  | zero =>
    intro x2 s0 rx2 hf
    rw [l_Mo_layFar_2] at hf
    cases hf
  | succ fu ih =>
    intro x2 s0 rx2 hf
    rw [l_Mo_layFar_2] at hf
    refine r_rS h (fun hs0 => ?_)
    refine r_iload_n h dX12_layFar_2 rfl 2 rfl ?_
    refine r_bipush h dX12_layFar_3 (by decide) ?_
    refine r_icmp_ge (tgt := 32) h dX12_layFar_5 (by decide) rx2 (rIc rfl) (fun hc1 => ?_) (fun hc1 => ?_)
    · have hf := ite_t hc1 hf
      refine r_iconst h dX12_layFar_32 ?_
      refine r_istore_n h [(2, .int (vI 0)), (0, .ref (ad 86)), (1, .int (vI y1))] dX12_layFar_33 rfl (by decide) rfl ?_
      refine r_sub h [1, 0] rfl ?_
      exact b_Mo_layFar_34 h hr hw ht FU 0 s0 (rIc rfl) hf
    · have hf := ite_f hc1 hf
      refine r_aload_n h dX12_layFar_8 rfl 0 rfl ?_
      have hq2 := w_ref hw ht rC_86 (by decide) (k := 65) (by decide) rf_12_65
      refine g_X12_128 h dX12_layFar_9 ht rC_86 hq2.1 ?_
      refine r_iload_n h dX12_layFar_12 rfl 2 rfl ?_
      refine r_iload_n h dX12_layFar_13 rfl 2 rfl ?_
      refine r_iload_n h dX12_layFar_14 rfl 1 rfl ?_
      refine r_icmp_ne (tgt := 22) h dX12_layFar_15 (by decide) rx2 ry1 (fun hc3 => ?_) (fun hc3 => ?_)
      · have hf := ite_f hc3 hf
        refine r_ldcw (x := 1000000) h dX12_layFar_22 (gt_in8 182 rfl rfl) rfl ?_
        exact b_Mo_layFar_25 h hr hw ht y1 x2 x2 1000000 (l_Mo_layFar_2 y1 fu) ih s0 ry1 rx2 rx2 (rIc rfl) hf
      · have hf := ite_nf hc3 hf
        refine r_iconst h dX12_layFar_18 ?_
        refine r_goto (tgt := 25) h dX12_layFar_19 (by decide) ?_
        exact b_Mo_layFar_25 h hr hw ht y1 x2 x2 0 (l_Mo_layFar_2 y1 fu) ih s0 ry1 rx2 rx2 (rIc rfl) hf
set_option maxRecDepth 20000 in
theorem m_Mo_layFar {l : Launch} {D : va_G} {cs : Nat → ClassId} {aS aV : Nat} {A : Nat → Prop} {ad : Nat → Nat} {n : Nat} {nl : Nat → Nat → Bool} {out : Int × SS} (hw : w_WH n nl) (ht : 86 < n) {a1 : Int} (ra1 : rI a1) {s0 : SS} (hs0 : rS s0) (hf : f_Mo_layFar a1 s0 = some out) : w_MC l D cs aS aV A yX12_layFar cX12_layFar 4 0 rm_Mo_layFar ad n nl [.ref (ad 86), .int (vI a1)] s0 (w_Po ad n nl out) := by
  refine w_MC_of (by decide +kernel) (by decide) hs0 (Nat.le_of_ble_eq_true rfl) (fun K h hr => ?_)
  refine r_lv (lv' := [(0, .ref (ad 86)), (1, .int (vI a1))]) rfl ?_
  unfold f_Mo_layFar at hf
  refine r_rS h (fun hs0 => ?_)
  refine r_iconst h dX12_layFar_0 ?_
  refine r_istore_n h [(2, .int (vI 0)), (0, .ref (ad 86)), (1, .int (vI a1))] dX12_layFar_1 rfl (by decide) rfl ?_
  refine r_sub h [1, 2, 0] rfl ?_
  exact b_Mo_layFar_2 h hr hw ht ra1 FU 0 s0 (rIc rfl) hf
set_option maxRecDepth 20000 in
theorem b_Mo_layShortest_34 {l : Launch} {D : va_G} {cs : Nat → ClassId} {aS aV : Nat} {A : Nat → Prop} {K : KT} {ad : Nat → Nat} {n : Nat} {nl : Nat → Nat → Bool} {out : Int × SS} (h : w_Cl l rm_Mo_layShortest D cs aS aV A cX12_layShortest 5 RX12 "layShortest" K) (hr : w_Rt 1 cX12_layShortest 0 0 (w_Po ad n nl out) K) (hw : w_WH n nl) (ht : 86 < n) {y1 : Int} (ry1 : rI y1) {y2 : Int} (ry2 : rI y2) {y3 : Int} (ry3 : rI y3) (self26 : Int → SS → OO) (hself26 : ∀ (x3 : Int) (τ : SS), rI x3 → self26 x3 τ = some out → K ad n nl 0 0 26 [(0, .ref (ad 86)), (1, .int (vI y1)), (2, .int (vI y2)), (3, .int (vI x3))] [] τ) : ∀ (fu : Nat) (x4 : Int) (s0 : SS), rI x4 → l_Mo_layShortest_34 self26 y1 y2 y3 fu x4 s0 = some out → K ad n nl 0 0 34 [(0, .ref (ad 86)), (1, .int (vI y1)), (2, .int (vI y2)), (3, .int (vI y3)), (4, .int (vI x4))] [] s0 := by
  intro fu
  induction fu with
  | zero =>
    intro x4 s0 rx4 hf
    rw [l_Mo_layShortest_34] at hf
    cases hf
  | succ fu ih =>
    intro x4 s0 rx4 hf
    rw [l_Mo_layShortest_34] at hf
    refine r_rS h (fun hs0 => ?_)
    refine r_aload_n h dX12_layShortest_34 rfl 0 rfl ?_
    refine r_iload h dX12_layShortest_35 4 rfl ?_
    refine r_iload_n h dX12_layShortest_37 rfl 3 rfl ?_
    obtain ⟨r1, s1, hq1, hf⟩ := ob_some hf
    refine r_callV1 h [.int (vI x4), .int (vI y3)] dX12_layShortest_38 (fun hs => m_Mo_otherEnd hw ht rx4 ry3 hs hq1) ml_X12_478 cv_Mo_otherEnd rfl (co := 12) rfl (by decide) ht rC_86 ⟨rfl, rfl⟩ ⟨Nat.le_of_ble_eq_true rfl, Nat.le_of_ble_eq_true rfl⟩ ⟨Nat.le_of_ble_eq_true rfl, Nat.le_of_ble_eq_true rfl⟩ (Nat.le_of_ble_eq_true rfl) rfl (fun hr1 hs1 => ?_)
    refine r_if_lt (tgt := 72) h dX12_layShortest_41 (by decide) hr1 (fun hc2 => ?_) (fun hc2 => ?_)
    · have hf := ite_t hc2 hf
      refine r_iinc h [(4, .int (vI (iw (x4 + 1)))), (0, .ref (ad 86)), (1, .int (vI y1)), (2, .int (vI y2)), (3, .int (vI y3))] dX12_layShortest_72 4 rfl (by decide) rfl ?_
      refine r_goto (tgt := 34) h dX12_layShortest_75 (by decide) ?_
      refine r_sub h [1, 2, 3, 4, 0] rfl ?_
      exact ih (iw (x4 + 1)) s1 (rI_iw _) hf
    · have hf := ite_f hc2 hf
      refine r_aload_n h dX12_layShortest_44 rfl 0 rfl ?_
      have hq3 := w_ref hw ht rC_86 (by decide) (k := 65) (by decide) rf_12_65
      refine g_X12_128 h dX12_layShortest_45 ht rC_86 hq3.1 ?_
      refine r_aload_n h dX12_layShortest_48 rfl 0 rfl ?_
      refine r_iload h dX12_layShortest_49 4 rfl ?_
      refine r_iload_n h dX12_layShortest_51 rfl 3 rfl ?_
      obtain ⟨r4, s4, hq4, hf⟩ := ob_some hf
      refine r_callV1 h [.int (vI x4), .int (vI y3)] dX12_layShortest_52 (fun hs => m_Mo_otherEnd hw ht rx4 ry3 hs hq4) ml_X12_478 cv_Mo_otherEnd rfl (co := 12) rfl (by decide) ht rC_86 ⟨rfl, rfl⟩ ⟨Nat.le_of_ble_eq_true rfl, Nat.le_of_ble_eq_true rfl⟩ ⟨Nat.le_of_ble_eq_true rfl, Nat.le_of_ble_eq_true rfl⟩ (Nat.le_of_ble_eq_true rfl) rfl (fun hr4 hs4 => ?_)
      obtain ⟨hi5, hf⟩ := oc_some hf
      refine r_iald h dX12_layShortest_55 hq3.2 rC_123 hr4 (N := 8) (by rw [rN_123]; rfl) (j := (r4).toNat) rfl hi5 ?_
      refine r_aload_n h dX12_layShortest_56 rfl 0 rfl ?_
      refine r_iload h dX12_layShortest_57 4 rfl ?_
      obtain ⟨r6, s6, hq6, hf⟩ := ob_some hf
      refine r_callV1 h [.int (vI x4)] dX12_layShortest_59 (fun hs => m_Mo_milesOf hw ht rx4 hs hq6) ml_X12_451 cv_Mo_milesOf rfl (co := 12) rfl (by decide) ht rC_86 ⟨rfl, rfl⟩ ⟨Nat.le_of_ble_eq_true rfl, Nat.le_of_ble_eq_true rfl⟩ ⟨Nat.le_of_ble_eq_true rfl, Nat.le_of_ble_eq_true rfl⟩ (Nat.le_of_ble_eq_true rfl) rfl (fun hr6 hs6 => ?_)
      refine r_iadd h dX12_layShortest_62 ?_
      refine r_aload_n h dX12_layShortest_63 rfl 0 rfl ?_
      have hq7 := w_ref hw ht rC_86 (by decide) (k := 65) (by decide) rf_12_65
      refine g_X12_128 h dX12_layShortest_64 ht rC_86 hq7.1 ?_
      refine r_iload_n h dX12_layShortest_67 rfl 3 rfl ?_
      obtain ⟨hi8, hf⟩ := oc_some hf
      refine r_iald h dX12_layShortest_68 hq7.2 rC_123 ry3 (N := 8) (by rw [rN_123]; rfl) (j := (y3).toNat) rfl hi8 ?_
      refine r_icmp_eq (tgt := 78) h dX12_layShortest_69 (by decide) (rI_iw _) (hs6.1 _ _) (fun hc9 => ?_) (fun hc9 => ?_)
      · have hf := ite_t hc9 hf
        refine r_aload_n h dX12_layShortest_78 rfl 0 rfl ?_
        have hq10 := w_ref hw ht rC_86 (by decide) (k := 66) (by decide) rf_12_66
        refine g_X12_131 h dX12_layShortest_79 ht rC_86 hq10.1 ?_
        refine r_aload_n h dX12_layShortest_82 rfl 0 rfl ?_
        refine g_X12_500 h dX12_layShortest_83 ht rC_86 ?_
        refine r_iload h dX12_layShortest_86 4 rfl ?_
        obtain ⟨hi11, hf⟩ := oc_some hf
        refine r_iast h dX12_layShortest_88 hq10.2 rC_124 (hs6.1 _ _) (N := 8) (by rw [rN_124]; rfl) (j := (gi s6 86 67).toNat) rfl hi11 rx4 ?_
        refine r_os hf (fun s12 hf => ?_)
        refine r_rS h (fun hs12 => ?_)
        refine r_aload_n h dX12_layShortest_89 rfl 0 rfl ?_
        refine r_dup h dX12_layShortest_90 rfl ?_
        refine g_X12_500 h dX12_layShortest_91 ht rC_86 ?_
        refine r_iconst h dX12_layShortest_94 ?_
        refine r_iadd h dX12_layShortest_95 ?_
        refine p_X12_500 h dX12_layShortest_96 ht rC_86 (rI_iw _) ?_
        refine r_os hf (fun s13 hf => ?_)
        refine r_rS h (fun hs13 => ?_)
        refine r_aload_n h dX12_layShortest_99 rfl 0 rfl ?_
        refine r_iload h dX12_layShortest_100 4 rfl ?_
        refine r_iload_n h dX12_layShortest_102 rfl 3 rfl ?_
        obtain ⟨r14, s14, hq14, hf⟩ := ob_some hf
        refine r_callV1 h [.int (vI x4), .int (vI y3)] dX12_layShortest_103 (fun hs => m_Mo_otherEnd hw ht rx4 ry3 hs hq14) ml_X12_478 cv_Mo_otherEnd rfl (co := 12) rfl (by decide) ht rC_86 ⟨rfl, rfl⟩ ⟨Nat.le_of_ble_eq_true rfl, Nat.le_of_ble_eq_true rfl⟩ ⟨Nat.le_of_ble_eq_true rfl, Nat.le_of_ble_eq_true rfl⟩ (Nat.le_of_ble_eq_true rfl) rfl (fun hr14 hs14 => ?_)
        refine r_istore_n h [(3, .int (vI r14)), (0, .ref (ad 86)), (1, .int (vI y1)), (2, .int (vI y2)), (4, .int (vI x4))] dX12_layShortest_106 rfl (by decide) rfl ?_
        refine r_goto (tgt := 26) h dX12_layShortest_107 (by decide) ?_
        refine r_sub h [1, 2, 3, 0] rfl ?_
        exact hself26 r14 s14 hr14 hf
      · have hf := ite_f hc9 hf
        refine r_iinc h [(4, .int (vI (iw (x4 + 1)))), (0, .ref (ad 86)), (1, .int (vI y1)), (2, .int (vI y2)), (3, .int (vI y3))] dX12_layShortest_72 4 rfl (by decide) rfl ?_
        refine r_goto (tgt := 34) h dX12_layShortest_75 (by decide) ?_
        refine r_sub h [1, 2, 3, 4, 0] rfl ?_
        exact ih (iw (x4 + 1)) s6 (rI_iw _) hf
set_option maxRecDepth 20000 in
theorem b_Mo_layShortest_26 {l : Launch} {D : va_G} {cs : Nat → ClassId} {aS aV : Nat} {A : Nat → Prop} {K : KT} {ad : Nat → Nat} {n : Nat} {nl : Nat → Nat → Bool} {out : Int × SS} (h : w_Cl l rm_Mo_layShortest D cs aS aV A cX12_layShortest 5 RX12 "layShortest" K) (hr : w_Rt 1 cX12_layShortest 0 0 (w_Po ad n nl out) K) (hw : w_WH n nl) (ht : 86 < n) {y1 : Int} (ry1 : rI y1) {y2 : Int} (ry2 : rI y2) : ∀ (fu : Nat) (x3 : Int) (s0 : SS), rI x3 → l_Mo_layShortest_26 y1 y2 fu x3 s0 = some out → K ad n nl 0 0 26 [(0, .ref (ad 86)), (1, .int (vI y1)), (2, .int (vI y2)), (3, .int (vI x3))] [] s0 := by
  intro fu
  induction fu with
  | zero =>
    intro x3 s0 rx3 hf
    rw [l_Mo_layShortest_26] at hf
    cases hf
  | succ fu ih =>
    intro x3 s0 rx3 hf
    rw [l_Mo_layShortest_26] at hf
    refine r_rS h (fun hs0 => ?_)
    refine r_iload_n h dX12_layShortest_26 rfl 3 rfl ?_
    refine r_iload_n h dX12_layShortest_27 rfl 2 rfl ?_
    refine r_icmp_eq (tgt := 110) h dX12_layShortest_28 (by decide) rx3 ry2 (fun hc1 => ?_) (fun hc1 => ?_)
    · have hf := ite_t hc1 hf
      refine r_aload_n h dX12_layShortest_110 rfl 0 rfl ?_
      have hq2 := w_ref hw ht rC_86 (by decide) (k := 65) (by decide) rf_12_65
      refine g_X12_128 h dX12_layShortest_111 ht rC_86 hq2.1 ?_
      refine r_iload_n h dX12_layShortest_114 rfl 1 rfl ?_
      obtain ⟨hi3, hf⟩ := oc_some hf
      refine r_iald h dX12_layShortest_115 hq2.2 rC_123 ry1 (N := 8) (by rw [rN_123]; rfl) (j := (y1).toNat) rfl hi3 ?_
      exact r_ret1 hr dX12_layShortest_116 (hs0.1 _ _) hf
    · have hf := ite_f hc1 hf
      refine r_iconst h dX12_layShortest_31 ?_
      refine r_istore h [(4, .int (vI 0)), (0, .ref (ad 86)), (1, .int (vI y1)), (2, .int (vI y2)), (3, .int (vI x3))] dX12_layShortest_32 (by decide) rfl ?_
      refine r_sub h [1, 2, 3, 4, 0] rfl ?_
      exact b_Mo_layShortest_34 h hr hw ht ry1 ry2 rx3 (l_Mo_layShortest_26 y1 y2 fu) ih FU 0 s0 (rIc rfl) hf
set_option maxRecDepth 20000 in
theorem m_Mo_layShortest {l : Launch} {D : va_G} {cs : Nat → ClassId} {aS aV : Nat} {A : Nat → Prop} {ad : Nat → Nat} {n : Nat} {nl : Nat → Nat → Bool} {out : Int × SS} (hw : w_WH n nl) (ht : 86 < n) {a1 : Int} (ra1 : rI a1) {a2 : Int} (ra2 : rI a2) {s0 : SS} (hs0 : rS s0) (hf : f_Mo_layShortest a1 a2 s0 = some out) : w_MC l D cs aS aV A yX12_layShortest cX12_layShortest 5 1 rm_Mo_layShortest ad n nl [.ref (ad 86), .int (vI a1), .int (vI a2)] s0 (w_Po ad n nl out) := by
  refine w_MC_of (by decide +kernel) (by decide) hs0 (Nat.le_of_ble_eq_true rfl) (fun K h hr => ?_)
  refine r_lv (lv' := [(0, .ref (ad 86)), (1, .int (vI a1)), (2, .int (vI a2))]) rfl ?_
  unfold f_Mo_layShortest at hf
  refine r_rS h (fun hs0 => ?_)
  refine r_aload_n h dX12_layShortest_0 rfl 0 rfl ?_
  refine r_iload_n h dX12_layShortest_1 rfl 2 rfl ?_
  obtain ⟨r1, s1, hq1, hf⟩ := ob_some hf
  refine r_callV0 h [.int (vI a2)] dX12_layShortest_2 (fun hs => m_Mo_layFar hw ht ra2 hs hq1) ml_X12_497 cv_Mo_layFar rfl (co := 12) rfl (by decide) ht rC_86 ⟨rfl, rfl⟩ ⟨Nat.le_of_ble_eq_true rfl, Nat.le_of_ble_eq_true rfl⟩ ⟨Nat.le_of_ble_eq_true rfl, Nat.le_of_ble_eq_true rfl⟩ (Nat.le_of_ble_eq_true rfl) rfl (fun hr1 hs1 => ?_)
  refine r_aload_n h dX12_layShortest_5 rfl 0 rfl ?_
  refine r_iconst h dX12_layShortest_6 ?_
  refine p_X12_500 h dX12_layShortest_7 ht rC_86 (rIc rfl) ?_
  refine r_os hf (fun s2 hf => ?_)
  refine r_rS h (fun hs2 => ?_)
  refine r_aload_n h dX12_layShortest_10 rfl 0 rfl ?_
  have hq3 := w_ref hw ht rC_86 (by decide) (k := 65) (by decide) rf_12_65
  refine g_X12_128 h dX12_layShortest_11 ht rC_86 hq3.1 ?_
  refine r_iload_n h dX12_layShortest_14 rfl 1 rfl ?_
  obtain ⟨hi4, hf⟩ := oc_some hf
  refine r_iald h dX12_layShortest_15 hq3.2 rC_123 ra1 (N := 8) (by rw [rN_123]; rfl) (j := (a1).toNat) rfl hi4 ?_
  refine r_ldcw (x := 1000000) h dX12_layShortest_16 (gt_in8 182 rfl rfl) rfl ?_
  refine r_icmp_lt (tgt := 24) h dX12_layShortest_19 (by decide) (hs2.1 _ _) (rIc rfl) (fun hc5 => ?_) (fun hc5 => ?_)
  · have hf := ite_t hc5 hf
    refine r_iload_n h dX12_layShortest_24 rfl 1 rfl ?_
    refine r_istore_n h [(3, .int (vI a1)), (0, .ref (ad 86)), (1, .int (vI a1)), (2, .int (vI a2))] dX12_layShortest_25 rfl (by decide) rfl ?_
    refine r_sub h [1, 2, 3, 0] rfl ?_
    exact b_Mo_layShortest_26 h hr hw ht ra1 ra2 FU a1 s2 ra1 hf
  · have hf := ite_f hc5 hf
    refine r_iconst h dX12_layShortest_22 ?_
    exact r_ret1 hr dX12_layShortest_23 (rIc rfl) hf
set_option maxRecDepth 20000 in
theorem b_Mo_shortest_33 {l : Launch} {D : va_G} {cs : Nat → ClassId} {aS aV : Nat} {A : Nat → Prop} {K : KT} {ad : Nat → Nat} {n : Nat} {nl : Nat → Nat → Bool} {out : Int × SS} (h : w_Cl l rm_Mo_shortest D cs aS aV A cX12_shortest 5 RX12 "shortest" K) (hr : w_Rt 1 cX12_shortest 0 0 (w_Po ad n nl out) K) (hw : w_WH n nl) (ht : 86 < n) {y3 : Int} (ry3 : rI y3) : ∀ (fu : Nat) (x4 : Int) (s0 : SS), rI x4 → l_Mo_shortest_33 y3 fu x4 s0 = some out → K ad n nl 0 0 33 [(0, .ref (ad 86)), (3, .int (vI y3)), (4, .int (vI x4))] [] s0 := by
  intro fu
  induction fu with
  | zero =>
    intro x4 s0 rx4 hf
    rw [l_Mo_shortest_33] at hf
    cases hf
  | succ fu ih =>
    intro x4 s0 rx4 hf
    rw [l_Mo_shortest_33] at hf
    refine r_rS h (fun hs0 => ?_)
    refine r_iload h dX12_shortest_33 2 rfl ?_
    refine r_aload_n h dX12_shortest_35 rfl 0 rfl ?_
    refine g_X12_500 h dX12_shortest_36 ht rC_86 ?_
    refine r_icmp_ge (tgt := 62) h dX12_shortest_39 (by decide) rx4 (hs0.1 _ _) (fun hc1 => ?_) (fun hc1 => ?_)
    · have hf := ite_t hc1 hf
      refine r_aload_n h dX12_shortest_62 rfl 0 rfl ?_
      refine r_aload_n h dX12_shortest_63 rfl 0 rfl ?_
      refine g_X12_500 h dX12_shortest_64 ht rC_86 ?_
      refine p_X12_466 h dX12_shortest_67 ht rC_86 (hs0.1 _ _) ?_
      refine r_os hf (fun s2 hf => ?_)
      refine r_rS h (fun hs2 => ?_)
      refine r_iload_n h dX12_shortest_70 rfl 1 rfl ?_
      exact r_ret1 hr dX12_shortest_71 ry3 hf
    · have hf := ite_f hc1 hf
      refine r_aload_n h dX12_shortest_42 rfl 0 rfl ?_
      have hq3 := w_ref hw ht rC_86 (by decide) (k := 59) (by decide) rf_12_59
      refine g_X12_122 h dX12_shortest_43 ht rC_86 hq3.1 ?_
      refine r_iload h dX12_shortest_46 2 rfl ?_
      refine r_aload_n h dX12_shortest_48 rfl 0 rfl ?_
      have hq4 := w_ref hw ht rC_86 (by decide) (k := 66) (by decide) rf_12_66
      refine g_X12_131 h dX12_shortest_49 ht rC_86 hq4.1 ?_
      refine r_iload h dX12_shortest_52 2 rfl ?_
      obtain ⟨hi5, hf⟩ := oc_some hf
      refine r_iald h dX12_shortest_54 hq4.2 rC_124 rx4 (N := 8) (by rw [rN_124]; rfl) (j := (x4).toNat) rfl hi5 ?_
      obtain ⟨hi6, hf⟩ := oc_some hf
      refine r_iast h dX12_shortest_55 hq3.2 rC_122 rx4 (N := 12) (by rw [rN_122]; rfl) (j := (x4).toNat) rfl hi6 (hs0.1 _ _) ?_
      refine r_os hf (fun s7 hf => ?_)
      refine r_rS h (fun hs7 => ?_)
      refine r_iinc h [(4, .int (vI (iw (x4 + 1)))), (0, .ref (ad 86)), (3, .int (vI y3))] dX12_shortest_56 2 rfl (by decide) rfl ?_
      refine r_goto (tgt := 33) h dX12_shortest_59 (by decide) ?_
      refine r_sub h [1, 2, 0] rfl ?_
      exact ih (iw (x4 + 1)) s7 (rI_iw _) hf
set_option maxRecDepth 20000 in
theorem m_Mo_shortest {l : Launch} {D : va_G} {cs : Nat → ClassId} {aS aV : Nat} {A : Nat → Prop} {ad : Nat → Nat} {n : Nat} {nl : Nat → Nat → Bool} {out : Int × SS} (hw : w_WH n nl) (ht : 86 < n) {a1 : Int} (ra1 : rI a1) {a2 : Int} (ra2 : rI a2) {s0 : SS} (hs0 : rS s0) (hf : f_Mo_shortest a1 a2 s0 = some out) : w_MC l D cs aS aV A yX12_shortest cX12_shortest 5 1 rm_Mo_shortest ad n nl [.ref (ad 86), .int (vI a1), .int (vI a2)] s0 (w_Po ad n nl out) := by
  refine w_MC_of (by decide +kernel) (by decide) hs0 (Nat.le_of_ble_eq_true rfl) (fun K h hr => ?_)
  refine r_lv (lv' := [(0, .ref (ad 86)), (1, .int (vI a1)), (2, .int (vI a2))]) rfl ?_
  unfold f_Mo_shortest at hf
  refine r_rS h (fun hs0 => ?_)
  refine r_aload_n h dX12_shortest_0 rfl 0 rfl ?_
  refine r_iconst h dX12_shortest_1 ?_
  refine p_X12_466 h dX12_shortest_2 ht rC_86 (rIc rfl) ?_
  refine r_os hf (fun s1 hf => ?_)
  refine r_rS h (fun hs1 => ?_)
  refine r_aload_n h dX12_shortest_5 rfl 0 rfl ?_
  refine r_iload_n h dX12_shortest_6 rfl 1 rfl ?_
  obtain ⟨r2, s2, hq2, hf⟩ := ob_some hf
  refine r_callV2 h [.int (vI a1)] dX12_shortest_7 (fun hs => m_Mo_isPlace hw ht ra1 hs hq2) ml_X12_469 cv_Mo_isPlace rfl (co := 12) rfl (by decide) ht rC_86 ⟨rfl, rfl⟩ ⟨Nat.le_of_ble_eq_true rfl, Nat.le_of_ble_eq_true rfl⟩ ⟨Nat.le_of_ble_eq_true rfl, Nat.le_of_ble_eq_true rfl⟩ (Nat.le_of_ble_eq_true rfl) rfl (fun hr2 hs2 => ?_)
  refine r_if_eq (tgt := 21) h dX12_shortest_10 (by decide) (rI_b hr2) (fun hc3 => ?_) (fun hc3 => ?_)
  · have hf := ite_t hc3 hf
    refine r_iconst h dX12_shortest_21 ?_
    exact r_ret1 hr dX12_shortest_22 (rIc rfl) hf
  · have hf := ite_f hc3 hf
    refine r_aload_n h dX12_shortest_13 rfl 0 rfl ?_
    refine r_iload_n h dX12_shortest_14 rfl 2 rfl ?_
    obtain ⟨r4, s4, hq4, hf⟩ := ob_some hf
    refine r_callV2 h [.int (vI a2)] dX12_shortest_15 (fun hs => m_Mo_isPlace hw ht ra2 hs hq4) ml_X12_469 cv_Mo_isPlace rfl (co := 12) rfl (by decide) ht rC_86 ⟨rfl, rfl⟩ ⟨Nat.le_of_ble_eq_true rfl, Nat.le_of_ble_eq_true rfl⟩ ⟨Nat.le_of_ble_eq_true rfl, Nat.le_of_ble_eq_true rfl⟩ (Nat.le_of_ble_eq_true rfl) rfl (fun hr4 hs4 => ?_)
    refine r_if_ne (tgt := 23) h dX12_shortest_18 (by decide) (rI_b hr4) (fun hc5 => ?_) (fun hc5 => ?_)
    · have hf := ite_f hc5 hf
      refine r_aload_n h dX12_shortest_23 rfl 0 rfl ?_
      refine r_iload_n h dX12_shortest_24 rfl 1 rfl ?_
      refine r_iload_n h dX12_shortest_25 rfl 2 rfl ?_
      obtain ⟨r6, s6, hq6, hf⟩ := ob_some hf
      refine r_callV1 h [.int (vI a1), .int (vI a2)] dX12_shortest_26 (fun hs => m_Mo_layShortest hw ht ra1 ra2 hs hq6) ml_X12_503 cv_Mo_layShortest rfl (co := 12) rfl (by decide) ht rC_86 ⟨rfl, rfl⟩ ⟨Nat.le_of_ble_eq_true rfl, Nat.le_of_ble_eq_true rfl⟩ ⟨Nat.le_of_ble_eq_true rfl, Nat.le_of_ble_eq_true rfl⟩ (Nat.le_of_ble_eq_true rfl) rfl (fun hr6 hs6 => ?_)
      refine r_istore_n h [(3, .int (vI r6)), (0, .ref (ad 86)), (1, .int (vI a1)), (2, .int (vI a2))] dX12_shortest_29 rfl (by decide) rfl ?_
      refine r_iconst h dX12_shortest_30 ?_
      refine r_istore h [(4, .int (vI 0)), (3, .int (vI r6)), (0, .ref (ad 86)), (1, .int (vI a1)), (2, .int (vI a2))] dX12_shortest_31 (by decide) rfl ?_
      refine r_sub h [2, 1, 0] rfl ?_
      exact b_Mo_shortest_33 h hr hw ht hr6 FU 0 s6 (rIc rfl) hf
    · have hf := ite_nf hc5 hf
      refine r_iconst h dX12_shortest_21 ?_
      exact r_ret1 hr dX12_shortest_22 (rIc rfl) hf
set_option maxRecDepth 20000 in
theorem m_Mo_coupleMany {l : Launch} {D : va_G} {cs : Nat → ClassId} {aS aV : Nat} {A : Nat → Prop} {ad : Nat → Nat} {n : Nat} {nl : Nat → Nat → Bool} {out : Int × SS} (hw : w_WH n nl) (ht : 86 < n) {s0 : SS} (hs0 : rS s0) (hf : f_Mo_coupleMany s0 = some out) : w_MC l D cs aS aV A yX12_coupleMany cX12_coupleMany 1 1 rm_Mo_coupleMany ad n nl [.ref (ad 86)] s0 (w_Po ad n nl out) := by
  refine w_MC_of (by decide +kernel) (by decide) hs0 (Nat.le_of_ble_eq_true rfl) (fun K h hr => ?_)
  refine r_lv (lv' := [(0, .ref (ad 86))]) rfl ?_
  unfold f_Mo_coupleMany at hf
  refine r_rS h (fun hs0 => ?_)
  refine r_sipush h dX12_coupleMany_0 (by decide) ?_
  exact r_ret1 hr dX12_coupleMany_3 (rIc rfl) hf
set_option maxRecDepth 20000 in
theorem m_Mo_firstOf {l : Launch} {D : va_G} {cs : Nat → ClassId} {aS aV : Nat} {A : Nat → Prop} {ad : Nat → Nat} {n : Nat} {nl : Nat → Nat → Bool} {out : Int × SS} (hw : w_WH n nl) {a1 : Int} (ra1 : rI a1) {s0 : SS} (hs0 : rS s0) (hf : f_Mo_firstOf a1 s0 = some out) : w_MC l D cs aS aV A yX12_firstOf cX12_firstOf 1 1 rm_Mo_firstOf ad n nl [.int (vI a1)] s0 (w_Po ad n nl out) := by
  refine w_MC_of (by decide +kernel) (by decide) hs0 (Nat.le_of_ble_eq_true rfl) (fun K h hr => ?_)
  refine r_lv (lv' := [(0, .int (vI a1))]) rfl ?_
  unfold f_Mo_firstOf at hf
  refine r_rS h (fun hs0 => ?_)
  refine r_iload_n h dX12_firstOf_0 rfl 0 rfl ?_
  refine r_bipush h dX12_firstOf_1 (by decide) ?_
  refine r_idivP h dX12_firstOf_3 ra1 (rIc rfl) (by decide) ?_
  exact r_ret1 hr dX12_firstOf_4 (rI_tdivP ra1 (by decide)) hf
set_option maxRecDepth 20000 in
theorem m_Mo_otherOf {l : Launch} {D : va_G} {cs : Nat → ClassId} {aS aV : Nat} {A : Nat → Prop} {ad : Nat → Nat} {n : Nat} {nl : Nat → Nat → Bool} {out : Int × SS} (hw : w_WH n nl) {a1 : Int} (ra1 : rI a1) {s0 : SS} (hs0 : rS s0) (hf : f_Mo_otherOf a1 s0 = some out) : w_MC l D cs aS aV A yX12_otherOf cX12_otherOf 1 1 rm_Mo_otherOf ad n nl [.int (vI a1)] s0 (w_Po ad n nl out) := by
  refine w_MC_of (by decide +kernel) (by decide) hs0 (Nat.le_of_ble_eq_true rfl) (fun K h hr => ?_)
  refine r_lv (lv' := [(0, .int (vI a1))]) rfl ?_
  unfold f_Mo_otherOf at hf
  refine r_rS h (fun hs0 => ?_)
  refine r_iload_n h dX12_otherOf_0 rfl 0 rfl ?_
  refine r_bipush h dX12_otherOf_1 (by decide) ?_
  refine r_idivP h dX12_otherOf_3 ra1 (rIc rfl) (by decide) ?_
  refine r_bipush h dX12_otherOf_4 (by decide) ?_
  refine r_irem h dX12_otherOf_6 (rI_tdivP ra1 (by decide)) (rIc rfl) (by decide) ?_
  exact r_ret1 hr dX12_otherOf_7 (rI_tmod (rI_tdivP ra1 (by decide)) (rIc rfl)) hf
set_option maxRecDepth 20000 in
theorem m_Mo_matterOf {l : Launch} {D : va_G} {cs : Nat → ClassId} {aS aV : Nat} {A : Nat → Prop} {ad : Nat → Nat} {n : Nat} {nl : Nat → Nat → Bool} {out : Int × SS} (hw : w_WH n nl) {a1 : Int} (ra1 : rI a1) {s0 : SS} (hs0 : rS s0) (hf : f_Mo_matterOf a1 s0 = some out) : w_MC l D cs aS aV A yX12_matterOf cX12_matterOf 1 1 rm_Mo_matterOf ad n nl [.int (vI a1)] s0 (w_Po ad n nl out) := by
  refine w_MC_of (by decide +kernel) (by decide) hs0 (Nat.le_of_ble_eq_true rfl) (fun K h hr => ?_)
  refine r_lv (lv' := [(0, .int (vI a1))]) rfl ?_
  unfold f_Mo_matterOf at hf
  refine r_rS h (fun hs0 => ?_)
  refine r_iload_n h dX12_matterOf_0 rfl 0 rfl ?_
  refine r_bipush h dX12_matterOf_1 (by decide) ?_
  refine r_irem h dX12_matterOf_3 ra1 (rIc rfl) (by decide) ?_
  exact r_ret1 hr dX12_matterOf_4 (rI_tmod ra1 (rIc rfl)) hf
set_option maxRecDepth 20000 in
theorem m_Mo_canBe {l : Launch} {D : va_G} {cs : Nat → ClassId} {aS aV : Nat} {A : Nat → Prop} {ad : Nat → Nat} {n : Nat} {nl : Nat → Nat → Bool} {out : Int × SS} (hw : w_WH n nl) (ht : 86 < n) {a1 : Int} (ra1 : rI a1) {s0 : SS} (hs0 : rS s0) (hf : f_Mo_canBe a1 s0 = some out) : w_MC l D cs aS aV A yX12_canBe cX12_canBe 2 2 rm_Mo_canBe ad n nl [.ref (ad 86), .int (vI a1)] s0 (w_Po ad n nl out) := by
  refine w_MC_of (by decide +kernel) (by decide) hs0 (Nat.le_of_ble_eq_true rfl) (fun K h hr => ?_)
  refine r_lv (lv' := [(0, .ref (ad 86)), (1, .int (vI a1))]) rfl ?_
  unfold f_Mo_canBe at hf
  refine r_rS h (fun hs0 => ?_)
  refine r_aload_n h dX12_canBe_0 rfl 0 rfl ?_
  refine r_iload_n h dX12_canBe_1 rfl 1 rfl ?_
  obtain ⟨r1, s1, hq1, hf⟩ := ob_some hf
  refine r_callS1 h [.int (vI a1)] dX12_canBe_2 (fun hs => m_Mo_firstOf hw ra1 hs hq1) ml_X12_506 cv_Mo_firstOf rfl ⟨rfl, rfl⟩ ⟨Nat.le_of_ble_eq_true rfl, Nat.le_of_ble_eq_true rfl⟩ ⟨Nat.le_of_ble_eq_true rfl, Nat.le_of_ble_eq_true rfl⟩ (Nat.le_of_ble_eq_true rfl) rfl (fun hr1 hs1 => ?_)
  refine r_iload_n h dX12_canBe_5 rfl 1 rfl ?_
  obtain ⟨r2, s2, hq2, hf⟩ := ob_some hf
  refine r_callS1 h [.int (vI a1)] dX12_canBe_6 (fun hs => m_Mo_otherOf hw ra1 hs hq2) ml_X12_509 cv_Mo_otherOf rfl ⟨rfl, rfl⟩ ⟨Nat.le_of_ble_eq_true rfl, Nat.le_of_ble_eq_true rfl⟩ ⟨Nat.le_of_ble_eq_true rfl, Nat.le_of_ble_eq_true rfl⟩ (Nat.le_of_ble_eq_true rfl) rfl (fun hr2 hs2 => ?_)
  refine r_iload_n h dX12_canBe_9 rfl 1 rfl ?_
  obtain ⟨r3, s3, hq3, hf⟩ := ob_some hf
  refine r_callS1 h [.int (vI a1)] dX12_canBe_10 (fun hs => m_Mo_matterOf hw ra1 hs hq3) ml_X12_512 cv_Mo_matterOf rfl ⟨rfl, rfl⟩ ⟨Nat.le_of_ble_eq_true rfl, Nat.le_of_ble_eq_true rfl⟩ ⟨Nat.le_of_ble_eq_true rfl, Nat.le_of_ble_eq_true rfl⟩ (Nat.le_of_ble_eq_true rfl) rfl (fun hr3 hs3 => ?_)
  obtain ⟨r4, s4, hq4, hf⟩ := ob_some hf
  refine r_callV2 h [.int (vI r1), .int (vI r2), .int (vI r3)] dX12_canBe_13 (fun hs => m_Mo_isCouple hw ht hr1 hr2 hr3 hs hq4) ml_X12_436 cv_Mo_isCouple rfl (co := 12) rfl (by decide) ht rC_86 ⟨rfl, rfl⟩ ⟨Nat.le_of_ble_eq_true rfl, Nat.le_of_ble_eq_true rfl⟩ ⟨Nat.le_of_ble_eq_true rfl, Nat.le_of_ble_eq_true rfl⟩ (Nat.le_of_ble_eq_true rfl) rfl (fun hr4 hs4 => ?_)
  exact r_ret2 hr dX12_canBe_16 hr4 hf
set_option maxRecDepth 20000 in
theorem m_Mo_beginBy {l : Launch} {D : va_G} {cs : Nat → ClassId} {aS aV : Nat} {A : Nat → Prop} {ad : Nat → Nat} {n : Nat} {nl : Nat → Nat → Bool} {out : Int × SS} (hw : w_WH n nl) (ht : 86 < n) {a1 : Int} (ra1 : rI a1) {s0 : SS} (hs0 : rS s0) (hf : f_Mo_beginBy a1 s0 = some out) : w_MC l D cs aS aV A yX12_beginBy cX12_beginBy 2 0 rm_Mo_beginBy ad n nl [.ref (ad 86), .int (vI a1)] s0 (w_Po ad n nl out) := by
  refine w_MC_of (by decide +kernel) (by decide) hs0 (Nat.le_of_ble_eq_true rfl) (fun K h hr => ?_)
  refine r_lv (lv' := [(0, .ref (ad 86)), (1, .int (vI a1))]) rfl ?_
  unfold f_Mo_beginBy at hf
  refine r_rS h (fun hs0 => ?_)
  refine r_aload_n h dX12_beginBy_0 rfl 0 rfl ?_
  refine r_aload_n h dX12_beginBy_1 rfl 0 rfl ?_
  have hq1 := w_ref hw ht rC_86 (by decide) (k := 53) (by decide) rf_12_53
  refine g_X12_113 h dX12_beginBy_2 ht rC_86 hq1.1 ?_
  refine r_iload_n h dX12_beginBy_5 rfl 1 rfl ?_
  obtain ⟨r2, s2, hq2, hf⟩ := ob_some hf
  refine r_callS1 h [.int (vI a1)] dX12_beginBy_6 (fun hs => m_Mo_firstOf hw ra1 hs hq2) ml_X12_506 cv_Mo_firstOf rfl ⟨rfl, rfl⟩ ⟨Nat.le_of_ble_eq_true rfl, Nat.le_of_ble_eq_true rfl⟩ ⟨Nat.le_of_ble_eq_true rfl, Nat.le_of_ble_eq_true rfl⟩ (Nat.le_of_ble_eq_true rfl) rfl (fun hr2 hs2 => ?_)
  refine r_iload_n h dX12_beginBy_9 rfl 1 rfl ?_
  obtain ⟨r3, s3, hq3, hf⟩ := ob_some hf
  refine r_callS1 h [.int (vI a1)] dX12_beginBy_10 (fun hs => m_Mo_otherOf hw ra1 hs hq3) ml_X12_509 cv_Mo_otherOf rfl ⟨rfl, rfl⟩ ⟨Nat.le_of_ble_eq_true rfl, Nat.le_of_ble_eq_true rfl⟩ ⟨Nat.le_of_ble_eq_true rfl, Nat.le_of_ble_eq_true rfl⟩ (Nat.le_of_ble_eq_true rfl) rfl (fun hr3 hs3 => ?_)
  refine r_iload_n h dX12_beginBy_13 rfl 1 rfl ?_
  obtain ⟨r4, s4, hq4, hf⟩ := ob_some hf
  refine r_callS1 h [.int (vI a1)] dX12_beginBy_14 (fun hs => m_Mo_matterOf hw ra1 hs hq4) ml_X12_512 cv_Mo_matterOf rfl ⟨rfl, rfl⟩ ⟨Nat.le_of_ble_eq_true rfl, Nat.le_of_ble_eq_true rfl⟩ ⟨Nat.le_of_ble_eq_true rfl, Nat.le_of_ble_eq_true rfl⟩ (Nat.le_of_ble_eq_true rfl) rfl (fun hr4 hs4 => ?_)
  obtain ⟨r5, s5, hq5, hf⟩ := ob_some hf
  refine r_callV0 h [.ref (ad 119), .int (vI r2), .int (vI r3), .int (vI r4)] dX12_beginBy_17 (fun hs => m_Mo_begin hw ht hq1.2 rC_119 hr2 hr3 hr4 hs hq5) ml_X12_424 cv_Mo_begin rfl (co := 12) rfl (by decide) ht rC_86 ⟨rfl, rfl⟩ ⟨Nat.le_of_ble_eq_true rfl, Nat.le_of_ble_eq_true rfl⟩ ⟨Nat.le_of_ble_eq_true rfl, Nat.le_of_ble_eq_true rfl⟩ (Nat.le_of_ble_eq_true rfl) rfl (fun hr5 hs5 => ?_)
  exact r_ret0 (x := 0) hr dX12_beginBy_20 hf
set_option maxRecDepth 20000 in
theorem b_Mo_send_37 {l : Launch} {D : va_G} {cs : Nat → ClassId} {aS aV : Nat} {A : Nat → Prop} {K : KT} {ad : Nat → Nat} {n : Nat} {nl : Nat → Nat → Bool} {out : Int × SS} (h : w_Cl l rm_Mo_send D cs aS aV A cX12_send 5 RX12 "send" K) (hr : w_Rt 1 cX12_send 0 0 (w_Po ad n nl out) K) (hw : w_WH n nl) (ht : 86 < n) {y1 : Int} (ry1 : rI y1) : ∀ (fu : Nat) (x3 : Int) (x4 : Int) (s0 : SS), rI x3 → rI x4 → l_Mo_send_37 y1 fu x3 x4 s0 = some out → K ad n nl 0 0 37 [(0, .ref (ad 86)), (1, .int (vI y1)), (3, .int (vI x3)), (4, .int (vI x4))] [] s0 := by
  intro fu
  induction fu with
  | zero =>
    intro x3 x4 s0 rx3 rx4 hf
    rw [l_Mo_send_37] at hf
    cases hf
  | succ fu ih =>
    intro x3 x4 s0 rx3 rx4 hf
    rw [l_Mo_send_37] at hf
    refine r_rS h (fun hs0 => ?_)
    refine r_iload h dX12_send_37 3 rfl ?_
    refine r_aload_n h dX12_send_39 rfl 0 rfl ?_
    obtain ⟨r1, s1, hq1, hf⟩ := ob_some hf
    refine r_callV1 h [] dX12_send_40 (fun hs => m_Mo_coupleMany hw ht hs hq1) ml_X12_515 cv_Mo_coupleMany rfl (co := 12) rfl (by decide) ht rC_86 ⟨rfl, rfl⟩ ⟨Nat.le_of_ble_eq_true rfl, Nat.le_of_ble_eq_true rfl⟩ ⟨Nat.le_of_ble_eq_true rfl, Nat.le_of_ble_eq_true rfl⟩ (Nat.le_of_ble_eq_true rfl) rfl (fun hr1 hs1 => ?_)
    refine r_icmp_ge (tgt := 171) h dX12_send_43 (by decide) rx4 hr1 (fun hc2 => ?_) (fun hc2 => ?_)
    · have hf := ite_t hc2 hf
      refine r_iload_n h dX12_send_171 rfl 2 rfl ?_
      exact r_ret1 hr dX12_send_172 rx3 hf
    · have hf := ite_f hc2 hf
      refine r_aload_n h dX12_send_46 rfl 0 rfl ?_
      refine r_iload h dX12_send_47 3 rfl ?_
      obtain ⟨r3, s3, hq3, hf⟩ := ob_some hf
      refine r_callV2 h [.int (vI x4)] dX12_send_49 (fun hs => m_Mo_canBe hw ht rx4 hs hq3) ml_X12_518 cv_Mo_canBe rfl (co := 12) rfl (by decide) ht rC_86 ⟨rfl, rfl⟩ ⟨Nat.le_of_ble_eq_true rfl, Nat.le_of_ble_eq_true rfl⟩ ⟨Nat.le_of_ble_eq_true rfl, Nat.le_of_ble_eq_true rfl⟩ (Nat.le_of_ble_eq_true rfl) rfl (fun hr3 hs3 => ?_)
      refine r_if_ne (tgt := 58) h dX12_send_52 (by decide) (rI_b hr3) (fun hc4 => ?_) (fun hc4 => ?_)
      · have hf := ite_f hc4 hf
        refine r_aload_n h dX12_send_58 rfl 0 rfl ?_
        refine r_iload h dX12_send_59 3 rfl ?_
        obtain ⟨r5, s5, hq5, hf⟩ := ob_some hf
        refine r_callV0 h [.int (vI x4)] dX12_send_61 (fun hs => m_Mo_beginBy hw ht rx4 hs hq5) ml_X12_521 cv_Mo_beginBy rfl (co := 12) rfl (by decide) ht rC_86 ⟨rfl, rfl⟩ ⟨Nat.le_of_ble_eq_true rfl, Nat.le_of_ble_eq_true rfl⟩ ⟨Nat.le_of_ble_eq_true rfl, Nat.le_of_ble_eq_true rfl⟩ (Nat.le_of_ble_eq_true rfl) rfl (fun hr5 hs5 => ?_)
        refine r_aload_n h dX12_send_64 rfl 0 rfl ?_
        refine r_aload_n h dX12_send_65 rfl 0 rfl ?_
        have hq6 := w_ref hw ht rC_86 (by decide) (k := 66) (by decide) rf_12_66
        refine g_X12_131 h dX12_send_66 ht rC_86 hq6.1 ?_
        refine r_aload_n h dX12_send_69 rfl 0 rfl ?_
        refine g_X12_500 h dX12_send_70 ht rC_86 ?_
        refine r_iload_n h dX12_send_73 rfl 1 rfl ?_
        obtain ⟨r7, s7, hq7, hf⟩ := ob_some hf
        refine r_callV0 h [.ref (ad 124), .int (vI (gi s5 86 67)), .int (vI y1)] dX12_send_74 (fun hs => m_Mo_along hw ht hq6.2 rC_124 (hs5.1 _ _) ry1 hs hq7) ml_X12_493 cv_Mo_along rfl (co := 12) rfl (by decide) ht rC_86 ⟨rfl, rfl⟩ ⟨Nat.le_of_ble_eq_true rfl, Nat.le_of_ble_eq_true rfl⟩ ⟨Nat.le_of_ble_eq_true rfl, Nat.le_of_ble_eq_true rfl⟩ (Nat.le_of_ble_eq_true rfl) rfl (fun hr7 hs7 => ?_)
        refine r_aload_n h dX12_send_77 rfl 0 rfl ?_
        refine g_X12_487 h dX12_send_78 ht rC_86 ?_
        refine r_if_lt (tgt := 165) h dX12_send_81 (by decide) (hs7.1 _ _) (fun hc8 => ?_) (fun hc8 => ?_)
        · have hf := ite_t hc8 hf
          refine r_iinc h [(4, .int (vI (iw (x4 + 1)))), (0, .ref (ad 86)), (1, .int (vI y1)), (3, .int (vI x3))] dX12_send_165 3 rfl (by decide) rfl ?_
          refine r_goto (tgt := 37) h dX12_send_168 (by decide) ?_
          refine r_sub h [1, 2, 3, 0] rfl ?_
          exact ih x3 (iw (x4 + 1)) s7 rx3 (rI_iw _) hf
        · have hf := ite_f hc8 hf
          refine r_aload_n h dX12_send_84 rfl 0 rfl ?_
          refine g_X12_487 h dX12_send_85 ht rC_86 ?_
          refine r_aload_n h dX12_send_88 rfl 0 rfl ?_
          refine g_X12_500 h dX12_send_89 ht rC_86 ?_
          refine r_iconst h dX12_send_92 ?_
          refine r_isub h dX12_send_93 ?_
          refine r_icmp_lt (tgt := 165) h dX12_send_94 (by decide) (hs7.1 _ _) (rI_iw _) (fun hc9 => ?_) (fun hc9 => ?_)
          · have hf := ite_t hc9 hf
            refine r_iinc h [(4, .int (vI (iw (x4 + 1)))), (0, .ref (ad 86)), (1, .int (vI y1)), (3, .int (vI x3))] dX12_send_165 3 rfl (by decide) rfl ?_
            refine r_goto (tgt := 37) h dX12_send_168 (by decide) ?_
            refine r_sub h [1, 2, 3, 0] rfl ?_
            exact ih x3 (iw (x4 + 1)) s7 rx3 (rI_iw _) hf
          · have hf := ite_f hc9 hf
            refine r_aload_n h dX12_send_97 rfl 0 rfl ?_
            refine g_X12_490 h dX12_send_98 ht rC_86 ?_
            refine r_aload_n h dX12_send_101 rfl 0 rfl ?_
            refine r_aload_n h dX12_send_102 rfl 0 rfl ?_
            have hq10 := w_ref hw ht rC_86 (by decide) (k := 66) (by decide) rf_12_66
            refine g_X12_131 h dX12_send_103 ht rC_86 hq10.1 ?_
            refine r_aload_n h dX12_send_106 rfl 0 rfl ?_
            refine g_X12_487 h dX12_send_107 ht rC_86 ?_
            obtain ⟨hi11, hf⟩ := oc_some hf
            refine r_iald h dX12_send_110 hq10.2 rC_124 (hs7.1 _ _) (N := 8) (by rw [rN_124]; rfl) (j := (gi s7 86 63).toNat) rfl hi11 ?_
            obtain ⟨r12, s12, hq12, hf⟩ := ob_some hf
            refine r_callV1 h [.int (vI (gi s7 124 ((gi s7 86 63).toNat)))] dX12_send_111 (fun hs => m_Mo_milesOf hw ht (hs7.1 _ _) hs hq12) ml_X12_451 cv_Mo_milesOf rfl (co := 12) rfl (by decide) ht rC_86 ⟨rfl, rfl⟩ ⟨Nat.le_of_ble_eq_true rfl, Nat.le_of_ble_eq_true rfl⟩ ⟨Nat.le_of_ble_eq_true rfl, Nat.le_of_ble_eq_true rfl⟩ (Nat.le_of_ble_eq_true rfl) rfl (fun hr12 hs12 => ?_)
            refine r_icmp_ge (tgt := 120) h dX12_send_114 (by decide) (hs7.1 _ _) hr12 (fun hc13 => ?_) (fun hc13 => ?_)
            · have hf := ite_t hc13 hf
              refine r_iload_n h dX12_send_120 rfl 2 rfl ?_
              refine r_if_ne (tgt := 162) h dX12_send_121 (by decide) rx3 (fun hc14 => ?_) (fun hc14 => ?_)
              · have hf := ite_f hc14 hf
                refine r_iinc h [(3, .int (vI (iw (x3 + 1)))), (0, .ref (ad 86)), (1, .int (vI y1)), (4, .int (vI x4))] dX12_send_162 2 rfl (by decide) rfl ?_
                refine r_iinc h [(4, .int (vI (iw (x4 + 1)))), (3, .int (vI (iw (x3 + 1)))), (0, .ref (ad 86)), (1, .int (vI y1))] dX12_send_165 3 rfl (by decide) rfl ?_
                refine r_goto (tgt := 37) h dX12_send_168 (by decide) ?_
                refine r_sub h [2, 3, 1, 0] rfl ?_
                exact ih (iw (x3 + 1)) (iw (x4 + 1)) s12 (rI_iw _) (rI_iw _) hf
              · have hf := ite_nf hc14 hf
                refine r_aload_n h dX12_send_124 rfl 0 rfl ?_
                have hq15 := w_ref hw ht rC_86 (by decide) (k := 59) (by decide) rf_12_59
                refine g_X12_122 h dX12_send_125 ht rC_86 hq15.1 ?_
                refine r_iconst h dX12_send_128 ?_
                refine r_iload h dX12_send_129 3 rfl ?_
                obtain ⟨r16, s16, hq16, hf⟩ := ob_some hf
                refine r_callS1 h [.int (vI x4)] dX12_send_131 (fun hs => m_Mo_firstOf hw rx4 hs hq16) ml_X12_506 cv_Mo_firstOf rfl ⟨rfl, rfl⟩ ⟨Nat.le_of_ble_eq_true rfl, Nat.le_of_ble_eq_true rfl⟩ ⟨Nat.le_of_ble_eq_true rfl, Nat.le_of_ble_eq_true rfl⟩ (Nat.le_of_ble_eq_true rfl) rfl (fun hr16 hs16 => ?_)
                refine r_iast h dX12_send_134 hq15.2 rC_122 (rIc rfl) (N := 12) (by rw [rN_122]; rfl) (j := 0) rfl (by decide) hr16 ?_
                refine r_os hf (fun s17 hf => ?_)
                refine r_rS h (fun hs17 => ?_)
                refine r_aload_n h dX12_send_135 rfl 0 rfl ?_
                have hq18 := w_ref hw ht rC_86 (by decide) (k := 59) (by decide) rf_12_59
                refine g_X12_122 h dX12_send_136 ht rC_86 hq18.1 ?_
                refine r_iconst h dX12_send_139 ?_
                refine r_iload h dX12_send_140 3 rfl ?_
                obtain ⟨r19, s19, hq19, hf⟩ := ob_some hf
                refine r_callS1 h [.int (vI x4)] dX12_send_142 (fun hs => m_Mo_otherOf hw rx4 hs hq19) ml_X12_509 cv_Mo_otherOf rfl ⟨rfl, rfl⟩ ⟨Nat.le_of_ble_eq_true rfl, Nat.le_of_ble_eq_true rfl⟩ ⟨Nat.le_of_ble_eq_true rfl, Nat.le_of_ble_eq_true rfl⟩ (Nat.le_of_ble_eq_true rfl) rfl (fun hr19 hs19 => ?_)
                refine r_iast h dX12_send_145 hq18.2 rC_122 (rIc rfl) (N := 12) (by rw [rN_122]; rfl) (j := 1) rfl (by decide) hr19 ?_
                refine r_os hf (fun s20 hf => ?_)
                refine r_rS h (fun hs20 => ?_)
                refine r_aload_n h dX12_send_146 rfl 0 rfl ?_
                have hq21 := w_ref hw ht rC_86 (by decide) (k := 59) (by decide) rf_12_59
                refine g_X12_122 h dX12_send_147 ht rC_86 hq21.1 ?_
                refine r_iconst h dX12_send_150 ?_
                refine r_iload h dX12_send_151 3 rfl ?_
                obtain ⟨r22, s22, hq22, hf⟩ := ob_some hf
                refine r_callS1 h [.int (vI x4)] dX12_send_153 (fun hs => m_Mo_matterOf hw rx4 hs hq22) ml_X12_512 cv_Mo_matterOf rfl ⟨rfl, rfl⟩ ⟨Nat.le_of_ble_eq_true rfl, Nat.le_of_ble_eq_true rfl⟩ ⟨Nat.le_of_ble_eq_true rfl, Nat.le_of_ble_eq_true rfl⟩ (Nat.le_of_ble_eq_true rfl) rfl (fun hr22 hs22 => ?_)
                refine r_iast h dX12_send_156 hq21.2 rC_122 (rIc rfl) (N := 12) (by rw [rN_122]; rfl) (j := 2) rfl (by decide) hr22 ?_
                refine r_os hf (fun s23 hf => ?_)
                refine r_rS h (fun hs23 => ?_)
                refine r_aload_n h dX12_send_157 rfl 0 rfl ?_
                refine r_iconst h dX12_send_158 ?_
                refine p_X12_466 h dX12_send_159 ht rC_86 (rIc rfl) ?_
                refine r_os hf (fun s24 hf => ?_)
                refine r_rS h (fun hs24 => ?_)
                refine r_iinc h [(3, .int (vI (iw (x3 + 1)))), (0, .ref (ad 86)), (1, .int (vI y1)), (4, .int (vI x4))] dX12_send_162 2 rfl (by decide) rfl ?_
                refine r_iinc h [(4, .int (vI (iw (x4 + 1)))), (3, .int (vI (iw (x3 + 1)))), (0, .ref (ad 86)), (1, .int (vI y1))] dX12_send_165 3 rfl (by decide) rfl ?_
                refine r_goto (tgt := 37) h dX12_send_168 (by decide) ?_
                refine r_sub h [2, 3, 1, 0] rfl ?_
                exact ih (iw (x3 + 1)) (iw (x4 + 1)) s24 (rI_iw _) (rI_iw _) hf
            · have hf := ite_f hc13 hf
              refine r_goto (tgt := 165) h dX12_send_117 (by decide) ?_
              refine r_iinc h [(4, .int (vI (iw (x4 + 1)))), (0, .ref (ad 86)), (1, .int (vI y1)), (3, .int (vI x3))] dX12_send_165 3 rfl (by decide) rfl ?_
              refine r_goto (tgt := 37) h dX12_send_168 (by decide) ?_
              refine r_sub h [1, 2, 3, 0] rfl ?_
              exact ih x3 (iw (x4 + 1)) s12 rx3 (rI_iw _) hf
      · have hf := ite_nf hc4 hf
        refine r_goto (tgt := 165) h dX12_send_55 (by decide) ?_
        refine r_iinc h [(4, .int (vI (iw (x4 + 1)))), (0, .ref (ad 86)), (1, .int (vI y1)), (3, .int (vI x3))] dX12_send_165 3 rfl (by decide) rfl ?_
        refine r_goto (tgt := 37) h dX12_send_168 (by decide) ?_
        refine r_sub h [1, 2, 3, 0] rfl ?_
        exact ih x3 (iw (x4 + 1)) s3 rx3 (rI_iw _) hf
set_option maxRecDepth 20000 in
theorem m_Mo_send {l : Launch} {D : va_G} {cs : Nat → ClassId} {aS aV : Nat} {A : Nat → Prop} {ad : Nat → Nat} {n : Nat} {nl : Nat → Nat → Bool} {out : Int × SS} (hw : w_WH n nl) (ht : 86 < n) {a1 : Int} (ra1 : rI a1) {a2 : Int} (ra2 : rI a2) {s0 : SS} (hs0 : rS s0) (hf : f_Mo_send a1 a2 s0 = some out) : w_MC l D cs aS aV A yX12_send cX12_send 5 1 rm_Mo_send ad n nl [.ref (ad 86), .int (vI a1), .int (vI a2)] s0 (w_Po ad n nl out) := by
  refine w_MC_of (by decide +kernel) (by decide) hs0 (Nat.le_of_ble_eq_true rfl) (fun K h hr => ?_)
  refine r_lv (lv' := [(0, .ref (ad 86)), (1, .int (vI a1)), (2, .int (vI a2))]) rfl ?_
  unfold f_Mo_send at hf
  refine r_rS h (fun hs0 => ?_)
  refine r_aload_n h dX12_send_0 rfl 0 rfl ?_
  refine r_iconst h dX12_send_1 ?_
  refine p_X12_466 h dX12_send_2 ht rC_86 (rIc rfl) ?_
  refine r_os hf (fun s1 hf => ?_)
  refine r_rS h (fun hs1 => ?_)
  refine r_aload_n h dX12_send_5 rfl 0 rfl ?_
  refine r_iload_n h dX12_send_6 rfl 1 rfl ?_
  obtain ⟨r2, s2, hq2, hf⟩ := ob_some hf
  refine r_callV2 h [.int (vI a1)] dX12_send_7 (fun hs => m_Mo_isPlace hw ht ra1 hs hq2) ml_X12_469 cv_Mo_isPlace rfl (co := 12) rfl (by decide) ht rC_86 ⟨rfl, rfl⟩ ⟨Nat.le_of_ble_eq_true rfl, Nat.le_of_ble_eq_true rfl⟩ ⟨Nat.le_of_ble_eq_true rfl, Nat.le_of_ble_eq_true rfl⟩ (Nat.le_of_ble_eq_true rfl) rfl (fun hr2 hs2 => ?_)
  refine r_if_eq (tgt := 30) h dX12_send_10 (by decide) (rI_b hr2) (fun hc3 => ?_) (fun hc3 => ?_)
  · have hf := ite_t hc3 hf
    refine r_iconst h dX12_send_30 ?_
    exact r_ret1 hr dX12_send_31 (rIc rfl) hf
  · have hf := ite_f hc3 hf
    refine r_aload_n h dX12_send_13 rfl 0 rfl ?_
    refine r_iload_n h dX12_send_14 rfl 2 rfl ?_
    obtain ⟨r4, s4, hq4, hf⟩ := ob_some hf
    refine r_callV2 h [.int (vI a2)] dX12_send_15 (fun hs => m_Mo_isPlace hw ht ra2 hs hq4) ml_X12_469 cv_Mo_isPlace rfl (co := 12) rfl (by decide) ht rC_86 ⟨rfl, rfl⟩ ⟨Nat.le_of_ble_eq_true rfl, Nat.le_of_ble_eq_true rfl⟩ ⟨Nat.le_of_ble_eq_true rfl, Nat.le_of_ble_eq_true rfl⟩ (Nat.le_of_ble_eq_true rfl) rfl (fun hr4 hs4 => ?_)
    refine r_if_eq (tgt := 30) h dX12_send_18 (by decide) (rI_b hr4) (fun hc5 => ?_) (fun hc5 => ?_)
    · have hf := ite_t hc5 hf
      refine r_iconst h dX12_send_30 ?_
      exact r_ret1 hr dX12_send_31 (rIc rfl) hf
    · have hf := ite_f hc5 hf
      refine r_aload_n h dX12_send_21 rfl 0 rfl ?_
      refine r_iload_n h dX12_send_22 rfl 1 rfl ?_
      refine r_iload_n h dX12_send_23 rfl 2 rfl ?_
      obtain ⟨r6, s6, hq6, hf⟩ := ob_some hf
      refine r_callV1 h [.int (vI a1), .int (vI a2)] dX12_send_24 (fun hs => m_Mo_layShortest hw ht ra1 ra2 hs hq6) ml_X12_503 cv_Mo_layShortest rfl (co := 12) rfl (by decide) ht rC_86 ⟨rfl, rfl⟩ ⟨Nat.le_of_ble_eq_true rfl, Nat.le_of_ble_eq_true rfl⟩ ⟨Nat.le_of_ble_eq_true rfl, Nat.le_of_ble_eq_true rfl⟩ (Nat.le_of_ble_eq_true rfl) rfl (fun hr6 hs6 => ?_)
      refine r_if_ge (tgt := 32) h dX12_send_27 (by decide) hr6 (fun hc7 => ?_) (fun hc7 => ?_)
      · have hf := ite_t hc7 hf
        refine r_iconst h dX12_send_32 ?_
        refine r_istore_n h [(3, .int (vI 0)), (0, .ref (ad 86)), (1, .int (vI a1)), (2, .int (vI a2))] dX12_send_33 rfl (by decide) rfl ?_
        refine r_iconst h dX12_send_34 ?_
        refine r_istore h [(4, .int (vI 0)), (3, .int (vI 0)), (0, .ref (ad 86)), (1, .int (vI a1)), (2, .int (vI a2))] dX12_send_35 (by decide) rfl ?_
        refine r_sub h [2, 3, 1, 0] rfl ?_
        exact b_Mo_send_37 h hr hw ht ra1 FU 0 0 s6 (rIc rfl) (rIc rfl) hf
      · have hf := ite_f hc7 hf
        refine r_iconst h dX12_send_30 ?_
        exact r_ret1 hr dX12_send_31 (rIc rfl) hf
set_option maxRecDepth 20000 in
theorem b_Mo_measured_67 {l : Launch} {D : va_G} {cs : Nat → ClassId} {aS aV : Nat} {A : Nat → Prop} {K : KT} {ad : Nat → Nat} {n : Nat} {nl : Nat → Nat → Bool} {out : Int × SS} (h : w_Cl l rm_Mo_measured D cs aS aV A cX12_measured 8 RX12 "measured" K) (hr : w_Rt 2 cX12_measured 0 0 (w_Po ad n nl out) K) (hw : w_WH n nl) (ht : 86 < n) (x1 : Int) (x2 : Int) (x6 : Int) (x7 : Int) (z2 : Int) (z3 : Int) (self15 : Int → Int → SS → OO) (hself15 : ∀ (x5 : Int) (x7 : Int) (τ : SS), rI x5 → rI x7 → self15 x5 x7 τ = some out → K ad n nl 0 0 15 [(0, .ref (ad 86)), (1, .int (vI x1)), (2, .int (vI x2)), (5, .int (vI x5)), (6, .int (vI x6)), (7, .int (vI x7))] [] τ) (s0 : SS) (rx1 : rI x1) (rx2 : rI x2) (rx6 : rI x6) (rx7 : rI x7) (rz2 : rI z2) (rz3 : rI z3) (hf : j_Mo_measured_67 self15 x1 x2 x6 x7 z2 z3 s0 = some out) : K ad n nl 0 0 67 [(0, .ref (ad 86)), (1, .int (vI x1)), (2, .int (vI x2)), (6, .int (vI x6)), (7, .int (vI x7))] [.int (vI z3), .int (vI z2), .ref (ad 119), .ref (ad 86)] s0 := by
  unfold j_Mo_measured_67 at hf
  have q119_0 := w_ref hw ht rC_86 (by decide) (k := 53) (by decide) rf_12_53
  refine r_rS h (fun hs0 => ?_)
  obtain ⟨r1, s1, hq1, hf⟩ := ob_some hf
  refine r_callV0 h [.ref (ad 119), .int (vI z2), .int (vI z3)] dX12_measured_67 (fun hs => m_Mo_say hw ht q119_0.2 rC_119 rz2 rz3 hs hq1) ml_X12_428 cv_Mo_say rfl (co := 12) rfl (by decide) ht rC_86 ⟨rfl, rfl⟩ ⟨Nat.le_of_ble_eq_true rfl, Nat.le_of_ble_eq_true rfl⟩ ⟨Nat.le_of_ble_eq_true rfl, Nat.le_of_ble_eq_true rfl⟩ (Nat.le_of_ble_eq_true rfl) rfl (fun hr1 hs1 => ?_)
  refine r_aload_n h dX12_measured_70 rfl 0 rfl ?_
  have hq2 := w_ref hw ht rC_86 (by decide) (k := 53) (by decide) rf_12_53
  refine g_X12_113 h dX12_measured_71 ht rC_86 hq2.1 ?_
  obtain ⟨r3, s3, hq3, hf⟩ := ob_some hf
  refine r_callS2 h [.ref (ad 119)] dX12_measured_74 (fun hs => m_Mo_isEnded hw hq2.2 rC_119 hs hq3) ml_X12_432 cv_Mo_isEnded rfl ⟨rfl, rfl⟩ ⟨Nat.le_of_ble_eq_true rfl, Nat.le_of_ble_eq_true rfl⟩ ⟨Nat.le_of_ble_eq_true rfl, Nat.le_of_ble_eq_true rfl⟩ (Nat.le_of_ble_eq_true rfl) rfl (fun hr3 hs3 => ?_)
  refine r_if_ne (tgt := 84) h dX12_measured_77 (by decide) (rI_b hr3) (fun hc4 => ?_) (fun hc4 => ?_)
  · have hf := ite_f hc4 hf
    refine r_iconst h dX12_measured_84 ?_
    refine r_istore h [(5, .int (vI 0)), (0, .ref (ad 86)), (1, .int (vI x1)), (2, .int (vI x2)), (6, .int (vI x6)), (7, .int (vI x7))] dX12_measured_85 (by decide) rfl ?_
    refine r_iinc h [(7, .int (vI (iw (x7 + 1)))), (5, .int (vI 0)), (0, .ref (ad 86)), (1, .int (vI x1)), (2, .int (vI x2)), (6, .int (vI x6))] dX12_measured_87 5 rfl (by decide) rfl ?_
    refine r_goto (tgt := 15) h dX12_measured_90 (by decide) ?_
    refine r_sub h [2, 3, 4, 1, 5, 0] rfl ?_
    exact hself15 0 (iw (x7 + 1)) s3 (rIc rfl) (rI_iw _) hf
  · have hf := ite_nf hc4 hf
    refine r_iconst h dX12_measured_80 ?_
    refine r_goto (tgt := 85) h dX12_measured_81 (by decide) ?_
    refine r_istore h [(5, .int (vI 1)), (0, .ref (ad 86)), (1, .int (vI x1)), (2, .int (vI x2)), (6, .int (vI x6)), (7, .int (vI x7))] dX12_measured_85 (by decide) rfl ?_
    refine r_iinc h [(7, .int (vI (iw (x7 + 1)))), (5, .int (vI 1)), (0, .ref (ad 86)), (1, .int (vI x1)), (2, .int (vI x2)), (6, .int (vI x6))] dX12_measured_87 5 rfl (by decide) rfl ?_
    refine r_goto (tgt := 15) h dX12_measured_90 (by decide) ?_
    refine r_sub h [2, 3, 4, 1, 5, 0] rfl ?_
    exact hself15 1 (iw (x7 + 1)) s3 (rIc rfl) (rI_iw _) hf
set_option maxRecDepth 20000 in
theorem b_Mo_measured_45 {l : Launch} {D : va_G} {cs : Nat → ClassId} {aS aV : Nat} {A : Nat → Prop} {K : KT} {ad : Nat → Nat} {n : Nat} {nl : Nat → Nat → Bool} {out : Int × SS} (h : w_Cl l rm_Mo_measured D cs aS aV A cX12_measured 8 RX12 "measured" K) (hr : w_Rt 2 cX12_measured 0 0 (w_Po ad n nl out) K) (hw : w_WH n nl) (ht : 86 < n) (x1 : Int) (x2 : Int) (x6 : Int) (x7 : Int) (self15 : Int → Int → SS → OO) (hself15 : ∀ (x5 : Int) (x7 : Int) (τ : SS), rI x5 → rI x7 → self15 x5 x7 τ = some out → K ad n nl 0 0 15 [(0, .ref (ad 86)), (1, .int (vI x1)), (2, .int (vI x2)), (5, .int (vI x5)), (6, .int (vI x6)), (7, .int (vI x7))] [] τ) (s0 : SS) (rx1 : rI x1) (rx2 : rI x2) (rx6 : rI x6) (rx7 : rI x7) (hf : j_Mo_measured_45 self15 x1 x2 x6 x7 s0 = some out) : K ad n nl 0 0 45 [(0, .ref (ad 86)), (1, .int (vI x1)), (2, .int (vI x2)), (6, .int (vI x6)), (7, .int (vI x7))] [] s0 := by
  unfold j_Mo_measured_45 at hf
  refine r_rS h (fun hs0 => ?_)
  refine r_aload_n h dX12_measured_45 rfl 0 rfl ?_
  refine r_aload_n h dX12_measured_46 rfl 0 rfl ?_
  have hq1 := w_ref hw ht rC_86 (by decide) (k := 53) (by decide) rf_12_53
  refine g_X12_113 h dX12_measured_47 ht rC_86 hq1.1 ?_
  refine r_iload_n h dX12_measured_50 rfl 2 rfl ?_
  refine r_iload h dX12_measured_51 4 rfl ?_
  refine r_aload_n h dX12_measured_53 rfl 0 rfl ?_
  refine r_iload_n h dX12_measured_54 rfl 2 rfl ?_
  obtain ⟨r2, s2, hq2, hf⟩ := ob_some hf
  refine r_callV1 h [.int (vI x2)] dX12_measured_55 (fun hs => m_Mo_milesOf hw ht rx2 hs hq2) ml_X12_451 cv_Mo_milesOf rfl (co := 12) rfl (by decide) ht rC_86 ⟨rfl, rfl⟩ ⟨Nat.le_of_ble_eq_true rfl, Nat.le_of_ble_eq_true rfl⟩ ⟨Nat.le_of_ble_eq_true rfl, Nat.le_of_ble_eq_true rfl⟩ (Nat.le_of_ble_eq_true rfl) rfl (fun hr2 hs2 => ?_)
  refine r_icmp_ne (tgt := 66) h dX12_measured_58 (by decide) rx7 hr2 (fun hc3 => ?_) (fun hc3 => ?_)
  · have hf := ite_f hc3 hf
    refine r_iconst h dX12_measured_66 ?_
    exact b_Mo_measured_67 h hr hw ht x1 x2 x6 x7 x2 (-1) self15 hself15 s2 rx1 rx2 rx6 rx7 rx2 (rIc rfl) hf
  · have hf := ite_nf hc3 hf
    refine r_iload h dX12_measured_61 3 rfl ?_
    refine r_goto (tgt := 67) h dX12_measured_63 (by decide) ?_
    exact b_Mo_measured_67 h hr hw ht x1 x2 x6 x7 x2 x6 self15 hself15 s2 rx1 rx2 rx6 rx7 rx2 rx6 hf
set_option maxRecDepth 20000 in
theorem b_Mo_measured_15 {l : Launch} {D : va_G} {cs : Nat → ClassId} {aS aV : Nat} {A : Nat → Prop} {K : KT} {ad : Nat → Nat} {n : Nat} {nl : Nat → Nat → Bool} {out : Int × SS} (h : w_Cl l rm_Mo_measured D cs aS aV A cX12_measured 8 RX12 "measured" K) (hr : w_Rt 2 cX12_measured 0 0 (w_Po ad n nl out) K) (hw : w_WH n nl) (ht : 86 < n) {y1 : Int} (ry1 : rI y1) {y2 : Int} (ry2 : rI y2) {y6 : Int} (ry6 : rI y6) : ∀ (fu : Nat) (x5 : Int) (x7 : Int) (s0 : SS), rI x5 → rI x7 → l_Mo_measured_15 y1 y2 y6 fu x5 x7 s0 = some out → K ad n nl 0 0 15 [(0, .ref (ad 86)), (1, .int (vI y1)), (2, .int (vI y2)), (5, .int (vI x5)), (6, .int (vI y6)), (7, .int (vI x7))] [] s0 := by
  intro fu
  induction fu with
  | zero =>
    intro x5 x7 s0 rx5 rx7 hf
    rw [l_Mo_measured_15] at hf
    cases hf
  | succ fu ih =>
    intro x5 x7 s0 rx5 rx7 hf
    rw [l_Mo_measured_15] at hf
    refine r_rS h (fun hs0 => ?_)
    refine r_iload h dX12_measured_15 5 rfl ?_
    refine r_aload_n h dX12_measured_17 rfl 0 rfl ?_
    refine r_iload_n h dX12_measured_18 rfl 2 rfl ?_
    obtain ⟨r1, s1, hq1, hf⟩ := ob_some hf
    refine r_callV1 h [.int (vI y2)] dX12_measured_19 (fun hs => m_Mo_milesOf hw ht ry2 hs hq1) ml_X12_451 cv_Mo_milesOf rfl (co := 12) rfl (by decide) ht rC_86 ⟨rfl, rfl⟩ ⟨Nat.le_of_ble_eq_true rfl, Nat.le_of_ble_eq_true rfl⟩ ⟨Nat.le_of_ble_eq_true rfl, Nat.le_of_ble_eq_true rfl⟩ (Nat.le_of_ble_eq_true rfl) rfl (fun hr1 hs1 => ?_)
    refine r_icmp_gt (tgt := 93) h dX12_measured_22 (by decide) rx7 hr1 (fun hc2 => ?_) (fun hc2 => ?_)
    · have hf := ite_t hc2 hf
      refine r_iload h dX12_measured_93 3 rfl ?_
      obtain ⟨hb3, hf⟩ := oc_some hf
      exact r_ret2 hr dX12_measured_95 hb3 hf
    · have hf := ite_f hc2 hf
      refine r_iload h dX12_measured_25 3 rfl ?_
      refine r_if_ne (tgt := 45) h dX12_measured_27 (by decide) rx5 (fun hc4 => ?_) (fun hc4 => ?_)
      · have hf := ite_f hc4 hf
        refine r_sub h [0, 1, 2, 4, 5] rfl ?_
        exact b_Mo_measured_45 h hr hw ht y1 y2 y6 x7 (l_Mo_measured_15 y1 y2 y6 fu) ih s1 ry1 ry2 ry6 rx7 hf
      · have hf := ite_nf hc4 hf
        refine r_aload_n h dX12_measured_30 rfl 0 rfl ?_
        refine r_iload_n h dX12_measured_31 rfl 1 rfl ?_
        obtain ⟨r5, s5, hq5, hf⟩ := ob_some hf
        refine r_callV0 h [.int (vI y1)] dX12_measured_32 (fun hs => m_Mo_beginBy hw ht ry1 hs hq5) ml_X12_521 cv_Mo_beginBy rfl (co := 12) rfl (by decide) ht rC_86 ⟨rfl, rfl⟩ ⟨Nat.le_of_ble_eq_true rfl, Nat.le_of_ble_eq_true rfl⟩ ⟨Nat.le_of_ble_eq_true rfl, Nat.le_of_ble_eq_true rfl⟩ (Nat.le_of_ble_eq_true rfl) rfl (fun hr5 hs5 => ?_)
        refine r_aload_n h dX12_measured_35 rfl 0 rfl ?_
        refine r_dup h dX12_measured_36 rfl ?_
        refine g_X12_524 h dX12_measured_37 ht rC_86 ?_
        refine r_iconst h dX12_measured_40 ?_
        refine r_iadd h dX12_measured_41 ?_
        refine p_X12_524 h dX12_measured_42 ht rC_86 (rI_iw _) ?_
        refine r_os hf (fun s6 hf => ?_)
        refine r_rS h (fun hs6 => ?_)
        refine r_sub h [0, 1, 2, 4, 5] rfl ?_
        exact b_Mo_measured_45 h hr hw ht y1 y2 y6 x7 (l_Mo_measured_15 y1 y2 y6 fu) ih s6 ry1 ry2 ry6 rx7 hf
set_option maxRecDepth 20000 in
theorem m_Mo_measured {l : Launch} {D : va_G} {cs : Nat → ClassId} {aS aV : Nat} {A : Nat → Prop} {ad : Nat → Nat} {n : Nat} {nl : Nat → Nat → Bool} {out : Int × SS} (hw : w_WH n nl) (ht : 86 < n) {a1 : Int} (ra1 : rI a1) {a2 : Int} (ra2 : rI a2) {a3 : Int} (ra3 : rI a3) {a4 : Int} (ba4 : a4 = 0 ∨ a4 = 1) {s0 : SS} (hs0 : rS s0) (hf : f_Mo_measured a1 a2 a3 a4 s0 = some out) : w_MC l D cs aS aV A yX12_measured cX12_measured 8 2 rm_Mo_measured ad n nl [.ref (ad 86), .int (vI a1), .int (vI a2), .int (vI a3), .int (vI a4)] s0 (w_Po ad n nl out) := by
  refine w_MC_of (by decide +kernel) (by decide) hs0 (Nat.le_of_ble_eq_true rfl) (fun K h hr => ?_)
  refine r_lv (lv' := [(0, .ref (ad 86)), (1, .int (vI a1)), (2, .int (vI a2)), (3, .int (vI a3)), (4, .int (vI a4))]) rfl ?_
  unfold f_Mo_measured at hf
  refine r_rS h (fun hs0 => ?_)
  refine r_iload h dX12_measured_0 4 rfl ?_
  refine r_istore h [(5, .int (vI a4)), (0, .ref (ad 86)), (1, .int (vI a1)), (2, .int (vI a2)), (3, .int (vI a3)), (4, .int (vI a4))] dX12_measured_2 (by decide) rfl ?_
  refine r_aload_n h dX12_measured_4 rfl 1 rfl ?_
  refine r_iload_n h dX12_measured_5 rfl 3 rfl ?_
  refine r_iload_n h dX12_measured_6 rfl 4 rfl ?_
  obtain ⟨r1, s1, hq1, hf⟩ := ob_some hf
  refine r_callV1 h [.int (vI a2), .int (vI a3)] dX12_measured_7 (fun hs => m_Mo_otherEnd hw ht ra2 ra3 hs hq1) ml_X12_478 cv_Mo_otherEnd rfl (co := 12) rfl (by decide) ht rC_86 ⟨rfl, rfl⟩ ⟨Nat.le_of_ble_eq_true rfl, Nat.le_of_ble_eq_true rfl⟩ ⟨Nat.le_of_ble_eq_true rfl, Nat.le_of_ble_eq_true rfl⟩ (Nat.le_of_ble_eq_true rfl) rfl (fun hr1 hs1 => ?_)
  refine r_istore h [(6, .int (vI r1)), (5, .int (vI a4)), (0, .ref (ad 86)), (1, .int (vI a1)), (2, .int (vI a2)), (3, .int (vI a3)), (4, .int (vI a4))] dX12_measured_10 (by decide) rfl ?_
  refine r_iconst h dX12_measured_12 ?_
  refine r_istore h [(7, .int (vI 1)), (6, .int (vI r1)), (5, .int (vI a4)), (0, .ref (ad 86)), (1, .int (vI a1)), (2, .int (vI a2)), (3, .int (vI a3)), (4, .int (vI a4))] dX12_measured_13 (by decide) rfl ?_
  refine r_sub h [3, 4, 5, 2, 1, 0] rfl ?_
  exact b_Mo_measured_15 h hr hw ht ra1 ra2 hr1 FU a4 1 s1 (rI_b ba4) (rIc rfl) hf
set_option maxRecDepth 20000 in
theorem b_Mo_measureBy_25 {l : Launch} {D : va_G} {cs : Nat → ClassId} {aS aV : Nat} {A : Nat → Prop} {K : KT} {ad : Nat → Nat} {n : Nat} {nl : Nat → Nat → Bool} {out : Int × SS} (h : w_Cl l rm_Mo_measureBy D cs aS aV A cX12_measureBy 4 RX12 "measureBy" K) (hr : w_Rt 1 cX12_measureBy 0 0 (w_Po ad n nl out) K) (hw : w_WH n nl) (ht : 86 < n) (z1 : Int) (z2 : Int) (z3 : Int) (s0 : SS) (rz1 : rI z1) (rz2 : rI z2) (rz3 : rI z3) (hf : j_Mo_measureBy_25 z1 z2 z3 s0 = some out) : K ad n nl 0 0 25 [(0, .ref (ad 86))] [.int (vI z3), .int (vI z2), .int (vI z1), .ref (ad 86)] s0 := by
  unfold j_Mo_measureBy_25 at hf
  refine r_rS h (fun hs0 => ?_)
  refine r_iconst h dX12_measureBy_25 ?_
  obtain ⟨r1, s1, hq1, hf⟩ := ob_some hf
  refine r_callV2 h [.int (vI z1), .int (vI z2), .int (vI z3), .int (vI 0)] dX12_measureBy_26 (fun hs => m_Mo_measured hw ht rz1 rz2 rz3 (Or.inl rfl) hs hq1) ml_X12_527 cv_Mo_measured rfl (co := 12) rfl (by decide) ht rC_86 ⟨rfl, rfl⟩ ⟨Nat.le_of_ble_eq_true rfl, Nat.le_of_ble_eq_true rfl⟩ ⟨Nat.le_of_ble_eq_true rfl, Nat.le_of_ble_eq_true rfl⟩ (Nat.le_of_ble_eq_true rfl) rfl (fun hr1 hs1 => ?_)
  refine r_pop h dX12_measureBy_29 rfl ?_
  refine r_aload_n h dX12_measureBy_30 rfl 0 rfl ?_
  refine g_X12_524 h dX12_measureBy_31 ht rC_86 ?_
  exact r_ret1 hr dX12_measureBy_34 (hs1.1 _ _) hf
set_option maxRecDepth 20000 in
theorem m_Mo_measureBy {l : Launch} {D : va_G} {cs : Nat → ClassId} {aS aV : Nat} {A : Nat → Prop} {ad : Nat → Nat} {n : Nat} {nl : Nat → Nat → Bool} {out : Int × SS} (hw : w_WH n nl) (ht : 86 < n) {a1 : Int} (ra1 : rI a1) {a2 : Int} (ra2 : rI a2) {a3 : Int} (ba3 : a3 = 0 ∨ a3 = 1) {s0 : SS} (hs0 : rS s0) (hf : f_Mo_measureBy a1 a2 a3 s0 = some out) : w_MC l D cs aS aV A yX12_measureBy cX12_measureBy 4 1 rm_Mo_measureBy ad n nl [.ref (ad 86), .int (vI a1), .int (vI a2), .int (vI a3)] s0 (w_Po ad n nl out) := by
  refine w_MC_of (by decide +kernel) (by decide) hs0 (Nat.le_of_ble_eq_true rfl) (fun K h hr => ?_)
  refine r_lv (lv' := [(0, .ref (ad 86)), (1, .int (vI a1)), (2, .int (vI a2)), (3, .int (vI a3))]) rfl ?_
  unfold f_Mo_measureBy at hf
  refine r_rS h (fun hs0 => ?_)
  refine r_aload_n h dX12_measureBy_0 rfl 0 rfl ?_
  refine r_iconst h dX12_measureBy_1 ?_
  refine p_X12_524 h dX12_measureBy_2 ht rC_86 (rIc rfl) ?_
  refine r_os hf (fun s1 hf => ?_)
  refine r_rS h (fun hs1 => ?_)
  refine r_aload_n h dX12_measureBy_5 rfl 0 rfl ?_
  refine r_iload_n h dX12_measureBy_6 rfl 1 rfl ?_
  refine r_iload_n h dX12_measureBy_7 rfl 2 rfl ?_
  refine r_iload_n h dX12_measureBy_8 rfl 3 rfl ?_
  refine r_if_eq (tgt := 20) h dX12_measureBy_9 (by decide) (rI_b ba3) (fun hc2 => ?_) (fun hc2 => ?_)
  · have hf := ite_t hc2 hf
    refine r_aload_n h dX12_measureBy_20 rfl 0 rfl ?_
    refine r_iload_n h dX12_measureBy_21 rfl 2 rfl ?_
    obtain ⟨r3, s3, hq3, hf⟩ := ob_some hf
    refine r_callV1 h [.int (vI a2)] dX12_measureBy_22 (fun hs => m_Mo_fromOf hw ht ra2 hs hq3) ml_X12_445 cv_Mo_fromOf rfl (co := 12) rfl (by decide) ht rC_86 ⟨rfl, rfl⟩ ⟨Nat.le_of_ble_eq_true rfl, Nat.le_of_ble_eq_true rfl⟩ ⟨Nat.le_of_ble_eq_true rfl, Nat.le_of_ble_eq_true rfl⟩ (Nat.le_of_ble_eq_true rfl) rfl (fun hr3 hs3 => ?_)
    refine r_sub h [0] rfl ?_
    exact b_Mo_measureBy_25 h hr hw ht a1 a2 r3 s3 ra1 ra2 hr3 hf
  · have hf := ite_f hc2 hf
    refine r_aload_n h dX12_measureBy_12 rfl 0 rfl ?_
    refine r_iload_n h dX12_measureBy_13 rfl 2 rfl ?_
    obtain ⟨r4, s4, hq4, hf⟩ := ob_some hf
    refine r_callV1 h [.int (vI a2)] dX12_measureBy_14 (fun hs => m_Mo_toOf hw ht ra2 hs hq4) ml_X12_448 cv_Mo_toOf rfl (co := 12) rfl (by decide) ht rC_86 ⟨rfl, rfl⟩ ⟨Nat.le_of_ble_eq_true rfl, Nat.le_of_ble_eq_true rfl⟩ ⟨Nat.le_of_ble_eq_true rfl, Nat.le_of_ble_eq_true rfl⟩ (Nat.le_of_ble_eq_true rfl) rfl (fun hr4 hs4 => ?_)
    refine r_goto (tgt := 25) h dX12_measureBy_17 (by decide) ?_
    refine r_sub h [0] rfl ?_
    exact b_Mo_measureBy_25 h hr hw ht a1 a2 r4 s4 ra1 ra2 hr4 hf
set_option maxRecDepth 20000 in
theorem m_Mo_measure {l : Launch} {D : va_G} {cs : Nat → ClassId} {aS aV : Nat} {A : Nat → Prop} {ad : Nat → Nat} {n : Nat} {nl : Nat → Nat → Bool} {out : Int × SS} (hw : w_WH n nl) (ht : 86 < n) {a1 : Int} (ra1 : rI a1) {a2 : Int} (ra2 : rI a2) {a3 : Int} (ra3 : rI a3) {a4 : Int} (ra4 : rI a4) {a5 : Int} (ba5 : a5 = 0 ∨ a5 = 1) {s0 : SS} (hs0 : rS s0) (hf : f_Mo_measure a1 a2 a3 a4 a5 s0 = some out) : w_MC l D cs aS aV A yX12_measure cX12_measure 6 1 rm_Mo_measure ad n nl [.ref (ad 86), .int (vI a1), .int (vI a2), .int (vI a3), .int (vI a4), .int (vI a5)] s0 (w_Po ad n nl out) := by
  refine w_MC_of (by decide +kernel) (by decide) hs0 (Nat.le_of_ble_eq_true rfl) (fun K h hr => ?_)
  refine r_lv (lv' := [(0, .ref (ad 86)), (1, .int (vI a1)), (2, .int (vI a2)), (3, .int (vI a3)), (4, .int (vI a4)), (5, .int (vI a5))]) rfl ?_
  unfold f_Mo_measure at hf
  refine r_rS h (fun hs0 => ?_)
  refine r_aload_n h dX12_measure_0 rfl 0 rfl ?_
  refine r_iload_n h dX12_measure_1 rfl 1 rfl ?_
  refine r_iload_n h dX12_measure_2 rfl 2 rfl ?_
  refine r_iload_n h dX12_measure_3 rfl 3 rfl ?_
  obtain ⟨r1, s1, hq1, hf⟩ := ob_some hf
  refine r_callV2 h [.int (vI a1), .int (vI a2), .int (vI a3)] dX12_measure_4 (fun hs => m_Mo_isCouple hw ht ra1 ra2 ra3 hs hq1) ml_X12_436 cv_Mo_isCouple rfl (co := 12) rfl (by decide) ht rC_86 ⟨rfl, rfl⟩ ⟨Nat.le_of_ble_eq_true rfl, Nat.le_of_ble_eq_true rfl⟩ ⟨Nat.le_of_ble_eq_true rfl, Nat.le_of_ble_eq_true rfl⟩ (Nat.le_of_ble_eq_true rfl) rfl (fun hr1 hs1 => ?_)
  refine r_if_eq (tgt := 41) h dX12_measure_7 (by decide) (rI_b hr1) (fun hc2 => ?_) (fun hc2 => ?_)
  · have hf := ite_t hc2 hf
    refine r_iconst h dX12_measure_41 ?_
    exact r_ret1 hr dX12_measure_42 (rIc rfl) hf
  · have hf := ite_f hc2 hf
    refine r_aload_n h dX12_measure_10 rfl 0 rfl ?_
    refine r_iload h dX12_measure_11 4 rfl ?_
    obtain ⟨r3, s3, hq3, hf⟩ := ob_some hf
    refine r_callV2 h [.int (vI a4)] dX12_measure_13 (fun hs => m_Mo_isWay hw ht ra4 hs hq3) ml_X12_442 cv_Mo_isWay rfl (co := 12) rfl (by decide) ht rC_86 ⟨rfl, rfl⟩ ⟨Nat.le_of_ble_eq_true rfl, Nat.le_of_ble_eq_true rfl⟩ ⟨Nat.le_of_ble_eq_true rfl, Nat.le_of_ble_eq_true rfl⟩ (Nat.le_of_ble_eq_true rfl) rfl (fun hr3 hs3 => ?_)
    refine r_if_eq (tgt := 41) h dX12_measure_16 (by decide) (rI_b hr3) (fun hc4 => ?_) (fun hc4 => ?_)
    · have hf := ite_t hc4 hf
      refine r_iconst h dX12_measure_41 ?_
      exact r_ret1 hr dX12_measure_42 (rIc rfl) hf
    · have hf := ite_f hc4 hf
      refine r_aload_n h dX12_measure_19 rfl 0 rfl ?_
      refine r_bipush h dX12_measure_20 (by decide) ?_
      refine r_iload_n h dX12_measure_22 rfl 1 rfl ?_
      refine r_imul h dX12_measure_23 ?_
      refine r_iload_n h dX12_measure_24 rfl 2 rfl ?_
      refine r_iadd h dX12_measure_25 ?_
      refine r_bipush h dX12_measure_26 (by decide) ?_
      refine r_imul h dX12_measure_28 ?_
      refine r_iload_n h dX12_measure_29 rfl 3 rfl ?_
      refine r_iadd h dX12_measure_30 ?_
      refine r_iload h dX12_measure_31 4 rfl ?_
      refine r_iload h dX12_measure_33 5 rfl ?_
      obtain ⟨r5, s5, hq5, hf⟩ := ob_some hf
      refine r_callV1 h [.int (vI (iw ((iw ((iw ((iw (6 * a1)) + a2)) * 6)) + a3))), .int (vI a4), .int (vI a5)] dX12_measure_35 (fun hs => m_Mo_measureBy hw ht (rI_iw _) ra4 ba5 hs hq5) ml_X12_531 cv_Mo_measureBy rfl (co := 12) rfl (by decide) ht rC_86 ⟨rfl, rfl⟩ ⟨Nat.le_of_ble_eq_true rfl, Nat.le_of_ble_eq_true rfl⟩ ⟨Nat.le_of_ble_eq_true rfl, Nat.le_of_ble_eq_true rfl⟩ (Nat.le_of_ble_eq_true rfl) rfl (fun hr5 hs5 => ?_)
      refine r_goto (tgt := 42) h dX12_measure_38 (by decide) ?_
      exact r_ret1 hr dX12_measure_42 hr5 hf
set_option maxRecDepth 20000 in
theorem b_Mo_adds_36 {l : Launch} {D : va_G} {cs : Nat → ClassId} {aS aV : Nat} {A : Nat → Prop} {K : KT} {ad : Nat → Nat} {n : Nat} {nl : Nat → Nat → Bool} {out : Int × SS} (h : w_Cl l rm_Mo_adds D cs aS aV A cX12_adds 7 RX12 "adds" K) (hr : w_Rt 1 cX12_adds 0 0 (w_Po ad n nl out) K) (hw : w_WH n nl) (ht : 86 < n) {y1 : Int} (ry1 : rI y1) {y2 : Int} (ry2 : rI y2) : ∀ (fu : Nat) (x3 : Int) (x4 : Int) (s0 : SS), rI x3 → rI x4 → l_Mo_adds_36 y1 y2 fu x3 x4 s0 = some out → K ad n nl 0 0 36 [(0, .ref (ad 86)), (1, .int (vI y1)), (2, .int (vI y2)), (3, .int (vI x3)), (4, .int (vI x4))] [] s0 := by
  intro fu
  induction fu with
  | zero =>
    intro x3 x4 s0 rx3 rx4 hf
    rw [l_Mo_adds_36] at hf
    cases hf
  | succ fu ih =>
    intro x3 x4 s0 rx3 rx4 hf
    rw [l_Mo_adds_36] at hf
    refine r_rS h (fun hs0 => ?_)
    refine r_iload h dX12_adds_36 4 rfl ?_
    refine r_aload_n h dX12_adds_38 rfl 0 rfl ?_
    obtain ⟨r1, s1, hq1, hf⟩ := ob_some hf
    refine r_callV1 h [] dX12_adds_39 (fun hs => m_Mo_coupleMany hw ht hs hq1) ml_X12_515 cv_Mo_coupleMany rfl (co := 12) rfl (by decide) ht rC_86 ⟨rfl, rfl⟩ ⟨Nat.le_of_ble_eq_true rfl, Nat.le_of_ble_eq_true rfl⟩ ⟨Nat.le_of_ble_eq_true rfl, Nat.le_of_ble_eq_true rfl⟩ (Nat.le_of_ble_eq_true rfl) rfl (fun hr1 hs1 => ?_)
    refine r_icmp_ge (tgt := 134) h dX12_adds_42 (by decide) rx4 hr1 (fun hc2 => ?_) (fun hc2 => ?_)
    · have hf := ite_t hc2 hf
      refine r_iload_n h dX12_adds_134 rfl 3 rfl ?_
      exact r_ret1 hr dX12_adds_135 rx3 hf
    · have hf := ite_f hc2 hf
      refine r_aload_n h dX12_adds_45 rfl 0 rfl ?_
      refine r_iload h dX12_adds_46 4 rfl ?_
      obtain ⟨r3, s3, hq3, hf⟩ := ob_some hf
      refine r_callV2 h [.int (vI x4)] dX12_adds_48 (fun hs => m_Mo_canBe hw ht rx4 hs hq3) ml_X12_518 cv_Mo_canBe rfl (co := 12) rfl (by decide) ht rC_86 ⟨rfl, rfl⟩ ⟨Nat.le_of_ble_eq_true rfl, Nat.le_of_ble_eq_true rfl⟩ ⟨Nat.le_of_ble_eq_true rfl, Nat.le_of_ble_eq_true rfl⟩ (Nat.le_of_ble_eq_true rfl) rfl (fun hr3 hs3 => ?_)
      refine r_if_ne (tgt := 57) h dX12_adds_51 (by decide) (rI_b hr3) (fun hc4 => ?_) (fun hc4 => ?_)
      · have hf := ite_f hc4 hf
        refine r_aload_n h dX12_adds_57 rfl 0 rfl ?_
        refine r_iload h dX12_adds_58 4 rfl ?_
        refine r_iload_n h dX12_adds_60 rfl 1 rfl ?_
        refine r_iconst h dX12_adds_61 ?_
        obtain ⟨r5, s5, hq5, hf⟩ := ob_some hf
        refine r_callV1 h [.int (vI x4), .int (vI y1), .int (vI 0)] dX12_adds_62 (fun hs => m_Mo_measureBy hw ht rx4 ry1 (Or.inl rfl) hs hq5) ml_X12_531 cv_Mo_measureBy rfl (co := 12) rfl (by decide) ht rC_86 ⟨rfl, rfl⟩ ⟨Nat.le_of_ble_eq_true rfl, Nat.le_of_ble_eq_true rfl⟩ ⟨Nat.le_of_ble_eq_true rfl, Nat.le_of_ble_eq_true rfl⟩ (Nat.le_of_ble_eq_true rfl) rfl (fun hr5 hs5 => ?_)
        refine r_aload_n h dX12_adds_65 rfl 0 rfl ?_
        refine r_iload h dX12_adds_66 4 rfl ?_
        refine r_iload_n h dX12_adds_68 rfl 2 rfl ?_
        refine r_iconst h dX12_adds_69 ?_
        obtain ⟨r6, s6, hq6, hf⟩ := ob_some hf
        refine r_callV1 h [.int (vI x4), .int (vI y2), .int (vI 0)] dX12_adds_70 (fun hs => m_Mo_measureBy hw ht rx4 ry2 (Or.inl rfl) hs hq6) ml_X12_531 cv_Mo_measureBy rfl (co := 12) rfl (by decide) ht rC_86 ⟨rfl, rfl⟩ ⟨Nat.le_of_ble_eq_true rfl, Nat.le_of_ble_eq_true rfl⟩ ⟨Nat.le_of_ble_eq_true rfl, Nat.le_of_ble_eq_true rfl⟩ (Nat.le_of_ble_eq_true rfl) rfl (fun hr6 hs6 => ?_)
        refine r_iadd h dX12_adds_73 ?_
        refine r_ol hf (rI_iw _) (fun x7_ rx7_ hf => ?_)
        refine r_istore h [(5, .int (vI x7_)), (0, .ref (ad 86)), (1, .int (vI y1)), (2, .int (vI y2)), (3, .int (vI x3)), (4, .int (vI x4))] dX12_adds_74 (by decide) rfl ?_
        refine r_aload_n h dX12_adds_76 rfl 1 rfl ?_
        refine r_iconst h dX12_adds_77 ?_
        refine p_X12_524 h dX12_adds_78 ht rC_86 (rIc rfl) ?_
        refine r_os hf (fun s8 hf => ?_)
        refine r_rS h (fun hs8 => ?_)
        refine r_aload_n h dX12_adds_81 rfl 1 rfl ?_
        refine r_iload h dX12_adds_82 5 rfl ?_
        refine r_iload_n h dX12_adds_84 rfl 2 rfl ?_
        refine r_aload_n h dX12_adds_85 rfl 1 rfl ?_
        refine r_iload_n h dX12_adds_86 rfl 2 rfl ?_
        obtain ⟨r9, s9, hq9, hf⟩ := ob_some hf
        refine r_callV1 h [.int (vI y1)] dX12_adds_87 (fun hs => m_Mo_fromOf hw ht ry1 hs hq9) ml_X12_445 cv_Mo_fromOf rfl (co := 12) rfl (by decide) ht rC_86 ⟨rfl, rfl⟩ ⟨Nat.le_of_ble_eq_true rfl, Nat.le_of_ble_eq_true rfl⟩ ⟨Nat.le_of_ble_eq_true rfl, Nat.le_of_ble_eq_true rfl⟩ (Nat.le_of_ble_eq_true rfl) rfl (fun hr9 hs9 => ?_)
        refine r_iconst h dX12_adds_90 ?_
        obtain ⟨r10, s10, hq10, hf⟩ := ob_some hf
        refine r_callV2 h [.int (vI x4), .int (vI y1), .int (vI r9), .int (vI 0)] dX12_adds_91 (fun hs => m_Mo_measured hw ht rx4 ry1 hr9 (Or.inl rfl) hs hq10) ml_X12_527 cv_Mo_measured rfl (co := 12) rfl (by decide) ht rC_86 ⟨rfl, rfl⟩ ⟨Nat.le_of_ble_eq_true rfl, Nat.le_of_ble_eq_true rfl⟩ ⟨Nat.le_of_ble_eq_true rfl, Nat.le_of_ble_eq_true rfl⟩ (Nat.le_of_ble_eq_true rfl) rfl (fun hr10 hs10 => ?_)
        refine r_istore h [(6, .int (vI r10)), (5, .int (vI x7_)), (0, .ref (ad 86)), (1, .int (vI y1)), (2, .int (vI y2)), (3, .int (vI x3)), (4, .int (vI x4))] dX12_adds_94 (by decide) rfl ?_
        refine r_aload_n h dX12_adds_96 rfl 2 rfl ?_
        refine r_iload h dX12_adds_97 6 rfl ?_
        refine r_iload_n h dX12_adds_99 rfl 4 rfl ?_
        refine r_aload_n h dX12_adds_100 rfl 2 rfl ?_
        refine r_iload_n h dX12_adds_101 rfl 4 rfl ?_
        obtain ⟨r11, s11, hq11, hf⟩ := ob_some hf
        refine r_callV1 h [.int (vI y2)] dX12_adds_102 (fun hs => m_Mo_fromOf hw ht ry2 hs hq11) ml_X12_445 cv_Mo_fromOf rfl (co := 12) rfl (by decide) ht rC_86 ⟨rfl, rfl⟩ ⟨Nat.le_of_ble_eq_true rfl, Nat.le_of_ble_eq_true rfl⟩ ⟨Nat.le_of_ble_eq_true rfl, Nat.le_of_ble_eq_true rfl⟩ (Nat.le_of_ble_eq_true rfl) rfl (fun hr11 hs11 => ?_)
        refine r_iload h dX12_adds_105 0 rfl ?_
        obtain ⟨r12, s12, hq12, hf⟩ := ob_some hf
        refine r_callV2 h [.int (vI x4), .int (vI y2), .int (vI r11), .int (vI r10)] dX12_adds_107 (fun hs => m_Mo_measured hw ht rx4 ry2 hr11 hr10 hs hq12) ml_X12_527 cv_Mo_measured rfl (co := 12) rfl (by decide) ht rC_86 ⟨rfl, rfl⟩ ⟨Nat.le_of_ble_eq_true rfl, Nat.le_of_ble_eq_true rfl⟩ ⟨Nat.le_of_ble_eq_true rfl, Nat.le_of_ble_eq_true rfl⟩ (Nat.le_of_ble_eq_true rfl) rfl (fun hr12 hs12 => ?_)
        refine r_pop h dX12_adds_110 rfl ?_
        refine r_iload_n h dX12_adds_111 rfl 5 rfl ?_
        refine r_aload_n h dX12_adds_112 rfl 2 rfl ?_
        refine g_X12_524 h dX12_adds_113 ht rC_86 ?_
        refine r_iload h dX12_adds_116 1 rfl ?_
        refine r_icmp_ne (tgt := 125) h dX12_adds_118 (by decide) (hs12.1 _ _) rx7_ (fun hc13 => ?_) (fun hc13 => ?_)
        · have hf := ite_f hc13 hf
          refine r_iconst h dX12_adds_125 ?_
          refine r_iadd h dX12_adds_126 ?_
          refine r_ol hf (rI_iw _) (fun x14_ rx14_ hf => ?_)
          refine r_istore_n h [(3, .int (vI x14_)), (6, .int (vI r10)), (5, .int (vI x7_)), (0, .ref (ad 86)), (1, .int (vI y1)), (2, .int (vI y2)), (4, .int (vI x4))] dX12_adds_127 rfl (by decide) rfl ?_
          refine r_iinc h [(4, .int (vI (iw (x4 + 1)))), (3, .int (vI x14_)), (6, .int (vI r10)), (5, .int (vI x7_)), (0, .ref (ad 86)), (1, .int (vI y1)), (2, .int (vI y2))] dX12_adds_128 6 rfl (by decide) rfl ?_
          refine r_goto (tgt := 36) h dX12_adds_131 (by decide) ?_
          refine r_sub h [4, 5, 6, 1, 0] rfl ?_
          exact ih x14_ (iw (x4 + 1)) s12 rx14_ (rI_iw _) hf
        · have hf := ite_nf hc13 hf
          refine r_iconst h dX12_adds_121 ?_
          refine r_goto (tgt := 126) h dX12_adds_122 (by decide) ?_
          refine r_iadd h dX12_adds_126 ?_
          refine r_ol hf (rI_iw _) (fun x15_ rx15_ hf => ?_)
          refine r_istore_n h [(3, .int (vI x15_)), (6, .int (vI r10)), (5, .int (vI x7_)), (0, .ref (ad 86)), (1, .int (vI y1)), (2, .int (vI y2)), (4, .int (vI x4))] dX12_adds_127 rfl (by decide) rfl ?_
          refine r_iinc h [(4, .int (vI (iw (x4 + 1)))), (3, .int (vI x15_)), (6, .int (vI r10)), (5, .int (vI x7_)), (0, .ref (ad 86)), (1, .int (vI y1)), (2, .int (vI y2))] dX12_adds_128 6 rfl (by decide) rfl ?_
          refine r_goto (tgt := 36) h dX12_adds_131 (by decide) ?_
          refine r_sub h [4, 5, 6, 1, 0] rfl ?_
          exact ih x15_ (iw (x4 + 1)) s12 rx15_ (rI_iw _) hf
      · have hf := ite_nf hc4 hf
        refine r_goto (tgt := 128) h dX12_adds_54 (by decide) ?_
        refine r_iinc h [(4, .int (vI (iw (x4 + 1)))), (0, .ref (ad 86)), (1, .int (vI y1)), (2, .int (vI y2)), (3, .int (vI x3))] dX12_adds_128 4 rfl (by decide) rfl ?_
        refine r_goto (tgt := 36) h dX12_adds_131 (by decide) ?_
        refine r_sub h [1, 2, 3, 4, 0] rfl ?_
        exact ih x3 (iw (x4 + 1)) s3 rx3 (rI_iw _) hf
set_option maxRecDepth 20000 in
theorem m_Mo_adds {l : Launch} {D : va_G} {cs : Nat → ClassId} {aS aV : Nat} {A : Nat → Prop} {ad : Nat → Nat} {n : Nat} {nl : Nat → Nat → Bool} {out : Int × SS} (hw : w_WH n nl) (ht : 86 < n) {a1 : Int} (ra1 : rI a1) {a2 : Int} (ra2 : rI a2) {s0 : SS} (hs0 : rS s0) (hf : f_Mo_adds a1 a2 s0 = some out) : w_MC l D cs aS aV A yX12_adds cX12_adds 7 1 rm_Mo_adds ad n nl [.ref (ad 86), .int (vI a1), .int (vI a2)] s0 (w_Po ad n nl out) := by
  refine w_MC_of (by decide +kernel) (by decide) hs0 (Nat.le_of_ble_eq_true rfl) (fun K h hr => ?_)
  refine r_lv (lv' := [(0, .ref (ad 86)), (1, .int (vI a1)), (2, .int (vI a2))]) rfl ?_
  unfold f_Mo_adds at hf
  refine r_rS h (fun hs0 => ?_)
  refine r_aload_n h dX12_adds_0 rfl 0 rfl ?_
  refine r_iload_n h dX12_adds_1 rfl 1 rfl ?_
  obtain ⟨r1, s1, hq1, hf⟩ := ob_some hf
  refine r_callV2 h [.int (vI a1)] dX12_adds_2 (fun hs => m_Mo_isWay hw ht ra1 hs hq1) ml_X12_442 cv_Mo_isWay rfl (co := 12) rfl (by decide) ht rC_86 ⟨rfl, rfl⟩ ⟨Nat.le_of_ble_eq_true rfl, Nat.le_of_ble_eq_true rfl⟩ ⟨Nat.le_of_ble_eq_true rfl, Nat.le_of_ble_eq_true rfl⟩ (Nat.le_of_ble_eq_true rfl) rfl (fun hr1 hs1 => ?_)
  refine r_if_eq (tgt := 29) h dX12_adds_5 (by decide) (rI_b hr1) (fun hc2 => ?_) (fun hc2 => ?_)
  · have hf := ite_t hc2 hf
    refine r_iconst h dX12_adds_29 ?_
    exact r_ret1 hr dX12_adds_30 (rIc rfl) hf
  · have hf := ite_f hc2 hf
    refine r_aload_n h dX12_adds_8 rfl 0 rfl ?_
    refine r_iload_n h dX12_adds_9 rfl 2 rfl ?_
    obtain ⟨r3, s3, hq3, hf⟩ := ob_some hf
    refine r_callV2 h [.int (vI a2)] dX12_adds_10 (fun hs => m_Mo_isWay hw ht ra2 hs hq3) ml_X12_442 cv_Mo_isWay rfl (co := 12) rfl (by decide) ht rC_86 ⟨rfl, rfl⟩ ⟨Nat.le_of_ble_eq_true rfl, Nat.le_of_ble_eq_true rfl⟩ ⟨Nat.le_of_ble_eq_true rfl, Nat.le_of_ble_eq_true rfl⟩ (Nat.le_of_ble_eq_true rfl) rfl (fun hr3 hs3 => ?_)
    refine r_if_eq (tgt := 29) h dX12_adds_13 (by decide) (rI_b hr3) (fun hc4 => ?_) (fun hc4 => ?_)
    · have hf := ite_t hc4 hf
      refine r_iconst h dX12_adds_29 ?_
      exact r_ret1 hr dX12_adds_30 (rIc rfl) hf
    · have hf := ite_f hc4 hf
      refine r_aload_n h dX12_adds_16 rfl 0 rfl ?_
      refine r_iload_n h dX12_adds_17 rfl 1 rfl ?_
      obtain ⟨r5, s5, hq5, hf⟩ := ob_some hf
      refine r_callV1 h [.int (vI a1)] dX12_adds_18 (fun hs => m_Mo_toOf hw ht ra1 hs hq5) ml_X12_448 cv_Mo_toOf rfl (co := 12) rfl (by decide) ht rC_86 ⟨rfl, rfl⟩ ⟨Nat.le_of_ble_eq_true rfl, Nat.le_of_ble_eq_true rfl⟩ ⟨Nat.le_of_ble_eq_true rfl, Nat.le_of_ble_eq_true rfl⟩ (Nat.le_of_ble_eq_true rfl) rfl (fun hr5 hs5 => ?_)
      refine r_aload_n h dX12_adds_21 rfl 0 rfl ?_
      refine r_iload_n h dX12_adds_22 rfl 2 rfl ?_
      obtain ⟨r6, s6, hq6, hf⟩ := ob_some hf
      refine r_callV1 h [.int (vI a2)] dX12_adds_23 (fun hs => m_Mo_fromOf hw ht ra2 hs hq6) ml_X12_445 cv_Mo_fromOf rfl (co := 12) rfl (by decide) ht rC_86 ⟨rfl, rfl⟩ ⟨Nat.le_of_ble_eq_true rfl, Nat.le_of_ble_eq_true rfl⟩ ⟨Nat.le_of_ble_eq_true rfl, Nat.le_of_ble_eq_true rfl⟩ (Nat.le_of_ble_eq_true rfl) rfl (fun hr6 hs6 => ?_)
      refine r_icmp_eq (tgt := 31) h dX12_adds_26 (by decide) hr5 hr6 (fun hc7 => ?_) (fun hc7 => ?_)
      · have hf := ite_t hc7 hf
        refine r_iconst h dX12_adds_31 ?_
        refine r_istore_n h [(3, .int (vI 0)), (0, .ref (ad 86)), (1, .int (vI a1)), (2, .int (vI a2))] dX12_adds_32 rfl (by decide) rfl ?_
        refine r_iconst h dX12_adds_33 ?_
        refine r_istore h [(4, .int (vI 0)), (3, .int (vI 0)), (0, .ref (ad 86)), (1, .int (vI a1)), (2, .int (vI a2))] dX12_adds_34 (by decide) rfl ?_
        refine r_sub h [2, 3, 4, 1, 0] rfl ?_
        exact b_Mo_adds_36 h hr hw ht ra1 ra2 FU 0 0 s6 (rIc rfl) (rIc rfl) hf
      · have hf := ite_f hc7 hf
        refine r_iconst h dX12_adds_29 ?_
        exact r_ret1 hr dX12_adds_30 (rIc rfl) hf
set_option maxRecDepth 20000 in
theorem b_Mo_isFair_2 {l : Launch} {D : va_G} {cs : Nat → ClassId} {aS aV : Nat} {A : Nat → Prop} {K : KT} {ad : Nat → Nat} {n : Nat} {nl : Nat → Nat → Bool} {out : Int × SS} (h : w_Cl l rm_Mo_isFair D cs aS aV A cX12_isFair 3 RX12 "isFair" K) (hr : w_Rt 2 cX12_isFair 0 0 (w_Po ad n nl out) K) (hw : w_WH n nl) (ht : 86 < n) {y1 : Int} (ry1 : rI y1) : ∀ (fu : Nat) (x2 : Int) (s0 : SS), rI x2 → l_Mo_isFair_2 y1 fu x2 s0 = some out → K ad n nl 0 0 2 [(0, .ref (ad 86)), (1, .int (vI y1)), (2, .int (vI x2))] [] s0 := by
  intro fu
  induction fu with
  | zero =>
    intro x2 s0 rx2 hf
    rw [l_Mo_isFair_2] at hf
    cases hf
  | succ fu ih =>
    intro x2 s0 rx2 hf
    rw [l_Mo_isFair_2] at hf
    refine r_rS h (fun hs0 => ?_)
    refine r_iload_n h dX12_isFair_2 rfl 2 rfl ?_
    refine r_aload_n h dX12_isFair_3 rfl 0 rfl ?_
    have hq1 := w_ref hw ht rC_86 (by decide) (k := 12) (by decide) rf_12_12
    refine g_X12_24 h dX12_isFair_4 ht rC_86 hq1.1 ?_
    refine r_aload_n h dX12_isFair_7 rfl 0 rfl ?_
    refine g_X12_295 h dX12_isFair_8 ht rC_86 ?_
    obtain ⟨hi2, hf⟩ := oc_some hf
    refine r_iald h dX12_isFair_11 hq1.2 rC_90 (hs0.1 _ _) (N := 2) (by rw [rN_90]; rfl) (j := (gi s0 86 40).toNat) rfl hi2 ?_
    refine r_icmp_ge (tgt := 40) h dX12_isFair_12 (by decide) rx2 (hs0.1 _ _) (fun hc3 => ?_) (fun hc3 => ?_)
    · have hf := ite_t hc3 hf
      refine r_iconst h dX12_isFair_40 ?_
      exact r_ret2 hr dX12_isFair_41 (Or.inr rfl) hf
    · have hf := ite_f hc3 hf
      refine r_aload_n h dX12_isFair_15 rfl 0 rfl ?_
      refine r_iload_n h dX12_isFair_16 rfl 1 rfl ?_
      refine r_iload_n h dX12_isFair_17 rfl 2 rfl ?_
      refine r_iconst h dX12_isFair_18 ?_
      obtain ⟨r4, s4, hq4, hf⟩ := ob_some hf
      refine r_callV1 h [.int (vI y1), .int (vI x2), .int (vI 0)] dX12_isFair_19 (fun hs => m_Mo_measureBy hw ht ry1 rx2 (Or.inl rfl) hs hq4) ml_X12_531 cv_Mo_measureBy rfl (co := 12) rfl (by decide) ht rC_86 ⟨rfl, rfl⟩ ⟨Nat.le_of_ble_eq_true rfl, Nat.le_of_ble_eq_true rfl⟩ ⟨Nat.le_of_ble_eq_true rfl, Nat.le_of_ble_eq_true rfl⟩ (Nat.le_of_ble_eq_true rfl) rfl (fun hr4 hs4 => ?_)
      refine r_aload_n h dX12_isFair_22 rfl 0 rfl ?_
      refine r_iload_n h dX12_isFair_23 rfl 1 rfl ?_
      refine r_iload_n h dX12_isFair_24 rfl 2 rfl ?_
      refine r_iconst h dX12_isFair_25 ?_
      obtain ⟨r5, s5, hq5, hf⟩ := ob_some hf
      refine r_callV1 h [.int (vI y1), .int (vI x2), .int (vI 1)] dX12_isFair_26 (fun hs => m_Mo_measureBy hw ht ry1 rx2 (Or.inr rfl) hs hq5) ml_X12_531 cv_Mo_measureBy rfl (co := 12) rfl (by decide) ht rC_86 ⟨rfl, rfl⟩ ⟨Nat.le_of_ble_eq_true rfl, Nat.le_of_ble_eq_true rfl⟩ ⟨Nat.le_of_ble_eq_true rfl, Nat.le_of_ble_eq_true rfl⟩ (Nat.le_of_ble_eq_true rfl) rfl (fun hr5 hs5 => ?_)
      refine r_icmp_eq (tgt := 34) h dX12_isFair_29 (by decide) hr4 hr5 (fun hc6 => ?_) (fun hc6 => ?_)
      · have hf := ite_t hc6 hf
        refine r_iinc h [(2, .int (vI (iw (x2 + 1)))), (0, .ref (ad 86)), (1, .int (vI y1))] dX12_isFair_34 2 rfl (by decide) rfl ?_
        refine r_goto (tgt := 2) h dX12_isFair_37 (by decide) ?_
        refine r_sub h [1, 2, 0] rfl ?_
        exact ih (iw (x2 + 1)) s5 (rI_iw _) hf
      · have hf := ite_f hc6 hf
        refine r_iconst h dX12_isFair_32 ?_
        exact r_ret2 hr dX12_isFair_33 (Or.inl rfl) hf
set_option maxRecDepth 20000 in
theorem m_Mo_isFair {l : Launch} {D : va_G} {cs : Nat → ClassId} {aS aV : Nat} {A : Nat → Prop} {ad : Nat → Nat} {n : Nat} {nl : Nat → Nat → Bool} {out : Int × SS} (hw : w_WH n nl) (ht : 86 < n) {a1 : Int} (ra1 : rI a1) {s0 : SS} (hs0 : rS s0) (hf : f_Mo_isFair a1 s0 = some out) : w_MC l D cs aS aV A yX12_isFair cX12_isFair 3 2 rm_Mo_isFair ad n nl [.ref (ad 86), .int (vI a1)] s0 (w_Po ad n nl out) := by
  refine w_MC_of (by decide +kernel) (by decide) hs0 (Nat.le_of_ble_eq_true rfl) (fun K h hr => ?_)
  refine r_lv (lv' := [(0, .ref (ad 86)), (1, .int (vI a1))]) rfl ?_
  unfold f_Mo_isFair at hf
  refine r_rS h (fun hs0 => ?_)
  refine r_iconst h dX12_isFair_0 ?_
  refine r_istore_n h [(2, .int (vI 0)), (0, .ref (ad 86)), (1, .int (vI a1))] dX12_isFair_1 rfl (by decide) rfl ?_
  refine r_sub h [1, 2, 0] rfl ?_
  exact b_Mo_isFair_2 h hr hw ht ra1 FU 0 s0 (rIc rfl) hf
set_option maxRecDepth 20000 in
theorem b_Mo_fair_4 {l : Launch} {D : va_G} {cs : Nat → ClassId} {aS aV : Nat} {A : Nat → Prop} {K : KT} {ad : Nat → Nat} {n : Nat} {nl : Nat → Nat → Bool} {out : Int × SS} (h : w_Cl l rm_Mo_fair D cs aS aV A cX12_fair 3 RX12 "fair" K) (hr : w_Rt 1 cX12_fair 0 0 (w_Po ad n nl out) K) (hw : w_WH n nl) (ht : 86 < n) : ∀ (fu : Nat) (x1 : Int) (x2 : Int) (s0 : SS), rI x1 → rI x2 → l_Mo_fair_4 fu x1 x2 s0 = some out → K ad n nl 0 0 4 [(0, .ref (ad 86)), (1, .int (vI x1)), (2, .int (vI x2))] [] s0 := by
  intro fu
  induction fu with
  | zero =>
    intro x1 x2 s0 rx1 rx2 hf
    rw [l_Mo_fair_4] at hf
    cases hf
  | succ fu ih =>
    intro x1 x2 s0 rx1 rx2 hf
    rw [l_Mo_fair_4] at hf
    refine r_rS h (fun hs0 => ?_)
    refine r_iload_n h dX12_fair_4 rfl 2 rfl ?_
    refine r_aload_n h dX12_fair_5 rfl 0 rfl ?_
    obtain ⟨r1, s1, hq1, hf⟩ := ob_some hf
    refine r_callV1 h [] dX12_fair_6 (fun hs => m_Mo_coupleMany hw ht hs hq1) ml_X12_515 cv_Mo_coupleMany rfl (co := 12) rfl (by decide) ht rC_86 ⟨rfl, rfl⟩ ⟨Nat.le_of_ble_eq_true rfl, Nat.le_of_ble_eq_true rfl⟩ ⟨Nat.le_of_ble_eq_true rfl, Nat.le_of_ble_eq_true rfl⟩ (Nat.le_of_ble_eq_true rfl) rfl (fun hr1 hs1 => ?_)
    refine r_icmp_ge (tgt := 42) h dX12_fair_9 (by decide) rx2 hr1 (fun hc2 => ?_) (fun hc2 => ?_)
    · have hf := ite_t hc2 hf
      refine r_iload_n h dX12_fair_42 rfl 1 rfl ?_
      exact r_ret1 hr dX12_fair_43 rx1 hf
    · have hf := ite_f hc2 hf
      refine r_iload_n h dX12_fair_12 rfl 1 rfl ?_
      refine r_aload_n h dX12_fair_13 rfl 0 rfl ?_
      refine r_iload_n h dX12_fair_14 rfl 2 rfl ?_
      obtain ⟨r3, s3, hq3, hf⟩ := ob_some hf
      refine r_callV2 h [.int (vI x2)] dX12_fair_15 (fun hs => m_Mo_canBe hw ht rx2 hs hq3) ml_X12_518 cv_Mo_canBe rfl (co := 12) rfl (by decide) ht rC_86 ⟨rfl, rfl⟩ ⟨Nat.le_of_ble_eq_true rfl, Nat.le_of_ble_eq_true rfl⟩ ⟨Nat.le_of_ble_eq_true rfl, Nat.le_of_ble_eq_true rfl⟩ (Nat.le_of_ble_eq_true rfl) rfl (fun hr3 hs3 => ?_)
      refine r_if_eq (tgt := 33) h dX12_fair_18 (by decide) (rI_b hr3) (fun hc4 => ?_) (fun hc4 => ?_)
      · have hf := ite_t hc4 hf
        refine r_iconst h dX12_fair_33 ?_
        refine r_iadd h dX12_fair_34 ?_
        refine r_ol hf (rI_iw _) (fun x5_ rx5_ hf => ?_)
        refine r_istore_n h [(1, .int (vI x5_)), (0, .ref (ad 86)), (2, .int (vI x2))] dX12_fair_35 rfl (by decide) rfl ?_
        refine r_iinc h [(2, .int (vI (iw (x2 + 1)))), (1, .int (vI x5_)), (0, .ref (ad 86))] dX12_fair_36 2 rfl (by decide) rfl ?_
        refine r_goto (tgt := 4) h dX12_fair_39 (by decide) ?_
        refine r_sub h [2, 1, 0] rfl ?_
        exact ih x5_ (iw (x2 + 1)) s3 rx5_ (rI_iw _) hf
      · have hf := ite_f hc4 hf
        refine r_aload_n h dX12_fair_21 rfl 0 rfl ?_
        refine r_iload_n h dX12_fair_22 rfl 2 rfl ?_
        obtain ⟨r6, s6, hq6, hf⟩ := ob_some hf
        refine r_callV2 h [.int (vI x2)] dX12_fair_23 (fun hs => m_Mo_isFair hw ht rx2 hs hq6) ml_X12_535 cv_Mo_isFair rfl (co := 12) rfl (by decide) ht rC_86 ⟨rfl, rfl⟩ ⟨Nat.le_of_ble_eq_true rfl, Nat.le_of_ble_eq_true rfl⟩ ⟨Nat.le_of_ble_eq_true rfl, Nat.le_of_ble_eq_true rfl⟩ (Nat.le_of_ble_eq_true rfl) rfl (fun hr6 hs6 => ?_)
        refine r_if_eq (tgt := 33) h dX12_fair_26 (by decide) (rI_b hr6) (fun hc7 => ?_) (fun hc7 => ?_)
        · have hf := ite_t hc7 hf
          refine r_iconst h dX12_fair_33 ?_
          refine r_iadd h dX12_fair_34 ?_
          refine r_ol hf (rI_iw _) (fun x8_ rx8_ hf => ?_)
          refine r_istore_n h [(1, .int (vI x8_)), (0, .ref (ad 86)), (2, .int (vI x2))] dX12_fair_35 rfl (by decide) rfl ?_
          refine r_iinc h [(2, .int (vI (iw (x2 + 1)))), (1, .int (vI x8_)), (0, .ref (ad 86))] dX12_fair_36 2 rfl (by decide) rfl ?_
          refine r_goto (tgt := 4) h dX12_fair_39 (by decide) ?_
          refine r_sub h [2, 1, 0] rfl ?_
          exact ih x8_ (iw (x2 + 1)) s6 rx8_ (rI_iw _) hf
        · have hf := ite_f hc7 hf
          refine r_iconst h dX12_fair_29 ?_
          refine r_goto (tgt := 34) h dX12_fair_30 (by decide) ?_
          refine r_iadd h dX12_fair_34 ?_
          refine r_ol hf (rI_iw _) (fun x9_ rx9_ hf => ?_)
          refine r_istore_n h [(1, .int (vI x9_)), (0, .ref (ad 86)), (2, .int (vI x2))] dX12_fair_35 rfl (by decide) rfl ?_
          refine r_iinc h [(2, .int (vI (iw (x2 + 1)))), (1, .int (vI x9_)), (0, .ref (ad 86))] dX12_fair_36 2 rfl (by decide) rfl ?_
          refine r_goto (tgt := 4) h dX12_fair_39 (by decide) ?_
          refine r_sub h [2, 1, 0] rfl ?_
          exact ih x9_ (iw (x2 + 1)) s6 rx9_ (rI_iw _) hf
set_option maxRecDepth 20000 in
theorem m_Mo_fair {l : Launch} {D : va_G} {cs : Nat → ClassId} {aS aV : Nat} {A : Nat → Prop} {ad : Nat → Nat} {n : Nat} {nl : Nat → Nat → Bool} {out : Int × SS} (hw : w_WH n nl) (ht : 86 < n) {s0 : SS} (hs0 : rS s0) (hf : f_Mo_fair s0 = some out) : w_MC l D cs aS aV A yX12_fair cX12_fair 3 1 rm_Mo_fair ad n nl [.ref (ad 86)] s0 (w_Po ad n nl out) := by
  refine w_MC_of (by decide +kernel) (by decide) hs0 (Nat.le_of_ble_eq_true rfl) (fun K h hr => ?_)
  refine r_lv (lv' := [(0, .ref (ad 86))]) rfl ?_
  unfold f_Mo_fair at hf
  refine r_rS h (fun hs0 => ?_)
  refine r_iconst h dX12_fair_0 ?_
  refine r_istore_n h [(1, .int (vI 0)), (0, .ref (ad 86))] dX12_fair_1 rfl (by decide) rfl ?_
  refine r_iconst h dX12_fair_2 ?_
  refine r_istore_n h [(2, .int (vI 0)), (1, .int (vI 0)), (0, .ref (ad 86))] dX12_fair_3 rfl (by decide) rfl ?_
  refine r_sub h [2, 1, 0] rfl ?_
  exact b_Mo_fair_4 h hr hw ht FU 0 0 s0 (rIc rfl) (rIc rfl) hf
set_option maxRecDepth 20000 in
theorem b_Mo_layJust_19 {l : Launch} {D : va_G} {cs : Nat → ClassId} {aS aV : Nat} {A : Nat → Prop} {K : KT} {ad : Nat → Nat} {n : Nat} {nl : Nat → Nat → Bool} {out : Int × SS} (h : w_Cl l rm_Mo_layJust D cs aS aV A cX12_layJust 3 RX12 "layJust" K) (hr : w_Rt 0 cX12_layJust 0 0 (w_Po ad n nl out) K) (hw : w_WH n nl) (ht : 86 < n) {y1 : Int} (ry1 : rI y1) (self2 : Int → SS → OO) (hself2 : ∀ (x1 : Int) (τ : SS), rI x1 → self2 x1 τ = some out → K ad n nl 0 0 2 [(0, .ref (ad 86)), (1, .int (vI x1))] [] τ) : ∀ (fu : Nat) (x2 : Int) (s0 : SS), rI x2 → l_Mo_layJust_19 self2 y1 fu x2 s0 = some out → K ad n nl 0 0 19 [(0, .ref (ad 86)), (1, .int (vI y1)), (2, .int (vI x2))] [] s0 := by
  intro fu
  induction fu with
  | zero =>
    intro x2 s0 rx2 hf
    rw [l_Mo_layJust_19] at hf
    cases hf
  | succ fu ih =>
    intro x2 s0 rx2 hf
    rw [l_Mo_layJust_19] at hf
    refine r_rS h (fun hs0 => ?_)
    refine r_iload_n h dX12_layJust_19 rfl 2 rfl ?_
    refine r_aload_n h dX12_layJust_20 rfl 0 rfl ?_
    have hq1 := w_ref hw ht rC_86 (by decide) (k := 12) (by decide) rf_12_12
    refine g_X12_24 h dX12_layJust_21 ht rC_86 hq1.1 ?_
    refine r_aload_n h dX12_layJust_24 rfl 0 rfl ?_
    refine g_X12_295 h dX12_layJust_25 ht rC_86 ?_
    obtain ⟨hi2, hf⟩ := oc_some hf
    refine r_iald h dX12_layJust_28 hq1.2 rC_90 (hs0.1 _ _) (N := 2) (by rw [rN_90]; rfl) (j := (gi s0 86 40).toNat) rfl hi2 ?_
    refine r_icmp_ge (tgt := 103) h dX12_layJust_29 (by decide) rx2 (hs0.1 _ _) (fun hc3 => ?_) (fun hc3 => ?_)
    · have hf := ite_t hc3 hf
      refine r_iinc h [(1, .int (vI (iw (y1 + 1)))), (0, .ref (ad 86)), (2, .int (vI x2))] dX12_layJust_103 1 rfl (by decide) rfl ?_
      refine r_goto (tgt := 2) h dX12_layJust_106 (by decide) ?_
      refine r_sub h [1, 0] rfl ?_
      exact hself2 (iw (y1 + 1)) s0 (rI_iw _) hf
    · have hf := ite_f hc3 hf
      refine r_aload_n h dX12_layJust_32 rfl 0 rfl ?_
      refine r_iload_n h dX12_layJust_33 rfl 1 rfl ?_
      obtain ⟨r4, s4, hq4, hf⟩ := ob_some hf
      refine r_callV2 h [.int (vI y1)] dX12_layJust_34 (fun hs => m_Mo_canBe hw ht ry1 hs hq4) ml_X12_518 cv_Mo_canBe rfl (co := 12) rfl (by decide) ht rC_86 ⟨rfl, rfl⟩ ⟨Nat.le_of_ble_eq_true rfl, Nat.le_of_ble_eq_true rfl⟩ ⟨Nat.le_of_ble_eq_true rfl, Nat.le_of_ble_eq_true rfl⟩ (Nat.le_of_ble_eq_true rfl) rfl (fun hr4 hs4 => ?_)
      refine r_if_eq (tgt := 103) h dX12_layJust_37 (by decide) (rI_b hr4) (fun hc5 => ?_) (fun hc5 => ?_)
      · have hf := ite_t hc5 hf
        refine r_iinc h [(1, .int (vI (iw (y1 + 1)))), (0, .ref (ad 86)), (2, .int (vI x2))] dX12_layJust_103 1 rfl (by decide) rfl ?_
        refine r_goto (tgt := 2) h dX12_layJust_106 (by decide) ?_
        refine r_sub h [1, 0] rfl ?_
        exact hself2 (iw (y1 + 1)) s4 (rI_iw _) hf
      · have hf := ite_f hc5 hf
        refine r_aload_n h dX12_layJust_40 rfl 0 rfl ?_
        refine r_iload_n h dX12_layJust_41 rfl 1 rfl ?_
        obtain ⟨r6, s6, hq6, hf⟩ := ob_some hf
        refine r_callV0 h [.int (vI y1)] dX12_layJust_42 (fun hs => m_Mo_beginBy hw ht ry1 hs hq6) ml_X12_521 cv_Mo_beginBy rfl (co := 12) rfl (by decide) ht rC_86 ⟨rfl, rfl⟩ ⟨Nat.le_of_ble_eq_true rfl, Nat.le_of_ble_eq_true rfl⟩ ⟨Nat.le_of_ble_eq_true rfl, Nat.le_of_ble_eq_true rfl⟩ (Nat.le_of_ble_eq_true rfl) rfl (fun hr6 hs6 => ?_)
        refine r_aload_n h dX12_layJust_45 rfl 0 rfl ?_
        have hq7 := w_ref hw ht rC_86 (by decide) (k := 70) (by decide) rf_12_70
        refine g_X12_137 h dX12_layJust_46 ht rC_86 hq7.1 ?_
        refine r_iconst h dX12_layJust_49 ?_
        refine r_iload_n h dX12_layJust_50 rfl 2 rfl ?_
        refine r_iast h dX12_layJust_51 hq7.2 rC_126 (rIc rfl) (N := 1) (by rw [rN_126]; rfl) (j := 0) rfl (by decide) rx2 ?_
        refine r_os hf (fun s8 hf => ?_)
        refine r_rS h (fun hs8 => ?_)
        refine r_aload_n h dX12_layJust_52 rfl 0 rfl ?_
        refine r_aload_n h dX12_layJust_53 rfl 0 rfl ?_
        have hq9 := w_ref hw ht rC_86 (by decide) (k := 70) (by decide) rf_12_70
        refine g_X12_137 h dX12_layJust_54 ht rC_86 hq9.1 ?_
        refine r_iconst h dX12_layJust_57 ?_
        refine r_aload_n h dX12_layJust_58 rfl 0 rfl ?_
        refine r_iload_n h dX12_layJust_59 rfl 2 rfl ?_
        obtain ⟨r10, s10, hq10, hf⟩ := ob_some hf
        refine r_callV1 h [.int (vI x2)] dX12_layJust_60 (fun hs => m_Mo_fromOf hw ht rx2 hs hq10) ml_X12_445 cv_Mo_fromOf rfl (co := 12) rfl (by decide) ht rC_86 ⟨rfl, rfl⟩ ⟨Nat.le_of_ble_eq_true rfl, Nat.le_of_ble_eq_true rfl⟩ ⟨Nat.le_of_ble_eq_true rfl, Nat.le_of_ble_eq_true rfl⟩ (Nat.le_of_ble_eq_true rfl) rfl (fun hr10 hs10 => ?_)
        obtain ⟨r11, s11, hq11, hf⟩ := ob_some hf
        refine r_callV0 h [.ref (ad 126), .int (vI 1), .int (vI r10)] dX12_layJust_63 (fun hs => m_Mo_along hw ht hq9.2 rC_126 (rIc rfl) hr10 hs hq11) ml_X12_493 cv_Mo_along rfl (co := 12) rfl (by decide) ht rC_86 ⟨rfl, rfl⟩ ⟨Nat.le_of_ble_eq_true rfl, Nat.le_of_ble_eq_true rfl⟩ ⟨Nat.le_of_ble_eq_true rfl, Nat.le_of_ble_eq_true rfl⟩ (Nat.le_of_ble_eq_true rfl) rfl (fun hr11 hs11 => ?_)
        refine r_aload_n h dX12_layJust_66 rfl 0 rfl ?_
        refine g_X12_487 h dX12_layJust_67 ht rC_86 ?_
        refine r_if_ne (tgt := 97) h dX12_layJust_70 (by decide) (hs11.1 _ _) (fun hc12 => ?_) (fun hc12 => ?_)
        · have hf := ite_f hc12 hf
          refine r_iinc h [(2, .int (vI (iw (x2 + 1)))), (0, .ref (ad 86)), (1, .int (vI y1))] dX12_layJust_97 2 rfl (by decide) rfl ?_
          refine r_goto (tgt := 19) h dX12_layJust_100 (by decide) ?_
          refine r_sub h [1, 2, 0] rfl ?_
          exact ih (iw (x2 + 1)) s11 (rI_iw _) hf
        · have hf := ite_nf hc12 hf
          refine r_aload_n h dX12_layJust_73 rfl 0 rfl ?_
          refine g_X12_490 h dX12_layJust_74 ht rC_86 ?_
          refine r_aload_n h dX12_layJust_77 rfl 0 rfl ?_
          refine r_iload_n h dX12_layJust_78 rfl 2 rfl ?_
          obtain ⟨r13, s13, hq13, hf⟩ := ob_some hf
          refine r_callV1 h [.int (vI x2)] dX12_layJust_79 (fun hs => m_Mo_milesOf hw ht rx2 hs hq13) ml_X12_451 cv_Mo_milesOf rfl (co := 12) rfl (by decide) ht rC_86 ⟨rfl, rfl⟩ ⟨Nat.le_of_ble_eq_true rfl, Nat.le_of_ble_eq_true rfl⟩ ⟨Nat.le_of_ble_eq_true rfl, Nat.le_of_ble_eq_true rfl⟩ (Nat.le_of_ble_eq_true rfl) rfl (fun hr13 hs13 => ?_)
          refine r_icmp_ne (tgt := 97) h dX12_layJust_82 (by decide) (hs11.1 _ _) hr13 (fun hc14 => ?_) (fun hc14 => ?_)
          · have hf := ite_f hc14 hf
            refine r_iinc h [(2, .int (vI (iw (x2 + 1)))), (0, .ref (ad 86)), (1, .int (vI y1))] dX12_layJust_97 2 rfl (by decide) rfl ?_
            refine r_goto (tgt := 19) h dX12_layJust_100 (by decide) ?_
            refine r_sub h [1, 2, 0] rfl ?_
            exact ih (iw (x2 + 1)) s13 (rI_iw _) hf
          · have hf := ite_nf hc14 hf
            refine r_aload_n h dX12_layJust_85 rfl 0 rfl ?_
            have hq15 := w_ref hw ht rC_86 (by decide) (k := 69) (by decide) rf_12_69
            refine g_X12_134 h dX12_layJust_86 ht rC_86 hq15.1 ?_
            refine r_iload_n h dX12_layJust_89 rfl 1 rfl ?_
            refine r_dup2a h dX12_layJust_90 rfl rfl ?_
            obtain ⟨hi16, hf⟩ := oc_some hf
            refine r_iald h dX12_layJust_91 hq15.2 rC_125 ry1 (N := 216) (by rw [rN_125]; rfl) (j := (y1).toNat) rfl hi16 ?_
            refine r_iconst h dX12_layJust_92 ?_
            refine r_iload_n h dX12_layJust_93 rfl 2 rfl ?_
            refine r_ishl h dX12_layJust_94 ?_
            refine r_ior h dX12_layJust_95 ?_
            obtain ⟨hi17, hf⟩ := oc_some hf
            refine r_iast h dX12_layJust_96 hq15.2 rC_125 ry1 (N := 216) (by rw [rN_125]; rfl) (j := (y1).toNat) rfl hi17 (rI_zor _ _) ?_
            refine r_os hf (fun s18 hf => ?_)
            refine r_rS h (fun hs18 => ?_)
            refine r_iinc h [(2, .int (vI (iw (x2 + 1)))), (0, .ref (ad 86)), (1, .int (vI y1))] dX12_layJust_97 2 rfl (by decide) rfl ?_
            refine r_goto (tgt := 19) h dX12_layJust_100 (by decide) ?_
            refine r_sub h [1, 2, 0] rfl ?_
            exact ih (iw (x2 + 1)) s18 (rI_iw _) hf
set_option maxRecDepth 20000 in
theorem b_Mo_layJust_2 {l : Launch} {D : va_G} {cs : Nat → ClassId} {aS aV : Nat} {A : Nat → Prop} {K : KT} {ad : Nat → Nat} {n : Nat} {nl : Nat → Nat → Bool} {out : Int × SS} (h : w_Cl l rm_Mo_layJust D cs aS aV A cX12_layJust 3 RX12 "layJust" K) (hr : w_Rt 0 cX12_layJust 0 0 (w_Po ad n nl out) K) (hw : w_WH n nl) (ht : 86 < n) : ∀ (fu : Nat) (x1 : Int) (s0 : SS), rI x1 → l_Mo_layJust_2 fu x1 s0 = some out → K ad n nl 0 0 2 [(0, .ref (ad 86)), (1, .int (vI x1))] [] s0 := by
  intro fu
  induction fu with
  | zero =>
    intro x1 s0 rx1 hf
    rw [l_Mo_layJust_2] at hf
    cases hf
  | succ fu ih =>
    intro x1 s0 rx1 hf
    rw [l_Mo_layJust_2] at hf
    refine r_rS h (fun hs0 => ?_)
    refine r_iload_n h dX12_layJust_2 rfl 1 rfl ?_
    refine r_aload_n h dX12_layJust_3 rfl 0 rfl ?_
    obtain ⟨r1, s1, hq1, hf⟩ := ob_some hf
    refine r_callV1 h [] dX12_layJust_4 (fun hs => m_Mo_coupleMany hw ht hs hq1) ml_X12_515 cv_Mo_coupleMany rfl (co := 12) rfl (by decide) ht rC_86 ⟨rfl, rfl⟩ ⟨Nat.le_of_ble_eq_true rfl, Nat.le_of_ble_eq_true rfl⟩ ⟨Nat.le_of_ble_eq_true rfl, Nat.le_of_ble_eq_true rfl⟩ (Nat.le_of_ble_eq_true rfl) rfl (fun hr1 hs1 => ?_)
    refine r_icmp_ge (tgt := 109) h dX12_layJust_7 (by decide) rx1 hr1 (fun hc2 => ?_) (fun hc2 => ?_)
    · have hf := ite_t hc2 hf
      exact r_ret0 (x := 0) hr dX12_layJust_109 hf
    · have hf := ite_f hc2 hf
      refine r_aload_n h dX12_layJust_10 rfl 0 rfl ?_
      have hq3 := w_ref hw ht rC_86 (by decide) (k := 69) (by decide) rf_12_69
      refine g_X12_134 h dX12_layJust_11 ht rC_86 hq3.1 ?_
      refine r_iload_n h dX12_layJust_14 rfl 1 rfl ?_
      refine r_iconst h dX12_layJust_15 ?_
      obtain ⟨hi4, hf⟩ := oc_some hf
      refine r_iast h dX12_layJust_16 hq3.2 rC_125 rx1 (N := 216) (by rw [rN_125]; rfl) (j := (x1).toNat) rfl hi4 (rIc rfl) ?_
      refine r_os hf (fun s5 hf => ?_)
      refine r_rS h (fun hs5 => ?_)
      refine r_iconst h dX12_layJust_17 ?_
      refine r_istore_n h [(2, .int (vI 0)), (0, .ref (ad 86)), (1, .int (vI x1))] dX12_layJust_18 rfl (by decide) rfl ?_
      refine r_sub h [1, 2, 0] rfl ?_
      exact b_Mo_layJust_19 h hr hw ht rx1 (l_Mo_layJust_2 fu) ih FU 0 s5 (rIc rfl) hf
set_option maxRecDepth 20000 in
theorem m_Mo_layJust {l : Launch} {D : va_G} {cs : Nat → ClassId} {aS aV : Nat} {A : Nat → Prop} {ad : Nat → Nat} {n : Nat} {nl : Nat → Nat → Bool} {out : Int × SS} (hw : w_WH n nl) (ht : 86 < n) {s0 : SS} (hs0 : rS s0) (hf : f_Mo_layJust s0 = some out) : w_MC l D cs aS aV A yX12_layJust cX12_layJust 3 0 rm_Mo_layJust ad n nl [.ref (ad 86)] s0 (w_Po ad n nl out) := by
  refine w_MC_of (by decide +kernel) (by decide) hs0 (Nat.le_of_ble_eq_true rfl) (fun K h hr => ?_)
  refine r_lv (lv' := [(0, .ref (ad 86))]) rfl ?_
  unfold f_Mo_layJust at hf
  refine r_rS h (fun hs0 => ?_)
  refine r_iconst h dX12_layJust_0 ?_
  refine r_istore_n h [(1, .int (vI 0)), (0, .ref (ad 86))] dX12_layJust_1 rfl (by decide) rfl ?_
  refine r_sub h [1, 0] rfl ?_
  exact b_Mo_layJust_2 h hr hw ht FU 0 s0 (rIc rfl) hf
set_option maxRecDepth 20000 in
theorem m_Mo_layCouple {l : Launch} {D : va_G} {cs : Nat → ClassId} {aS aV : Nat} {A : Nat → Prop} {ad : Nat → Nat} {n : Nat} {nl : Nat → Nat → Bool} {out : Int × SS} (hw : w_WH n nl) (ht : 86 < n) {a1 : Int} (ra1 : rI a1) {a2 : Int} (ra2 : rI a2) {s0 : SS} (hs0 : rS s0) (hf : f_Mo_layCouple a1 a2 s0 = some out) : w_MC l D cs aS aV A yX12_layCouple cX12_layCouple 3 0 rm_Mo_layCouple ad n nl [.ref (ad 86), .int (vI a1), .int (vI a2)] s0 (w_Po ad n nl out) := by
  refine w_MC_of (by decide +kernel) (by decide) hs0 (Nat.le_of_ble_eq_true rfl) (fun K h hr => ?_)
  refine r_lv (lv' := [(0, .ref (ad 86)), (1, .int (vI a1)), (2, .int (vI a2))]) rfl ?_
  unfold f_Mo_layCouple at hf
  refine r_rS h (fun hs0 => ?_)
  refine r_aload_n h dX12_layCouple_0 rfl 0 rfl ?_
  have hq1 := w_ref hw ht rC_86 (by decide) (k := 59) (by decide) rf_12_59
  refine g_X12_122 h dX12_layCouple_1 ht rC_86 hq1.1 ?_
  refine r_iload_n h dX12_layCouple_4 rfl 1 rfl ?_
  refine r_bipush h dX12_layCouple_5 (by decide) ?_
  refine r_iload_n h dX12_layCouple_7 rfl 2 rfl ?_
  obtain ⟨r2, s2, hq2, hf⟩ := ob_some hf
  refine r_callS1 h [.int (vI a2)] dX12_layCouple_8 (fun hs => m_Mo_firstOf hw ra2 hs hq2) ml_X12_506 cv_Mo_firstOf rfl ⟨rfl, rfl⟩ ⟨Nat.le_of_ble_eq_true rfl, Nat.le_of_ble_eq_true rfl⟩ ⟨Nat.le_of_ble_eq_true rfl, Nat.le_of_ble_eq_true rfl⟩ (Nat.le_of_ble_eq_true rfl) rfl (fun hr2 hs2 => ?_)
  refine r_imul h dX12_layCouple_11 ?_
  refine r_bipush h dX12_layCouple_12 (by decide) ?_
  refine r_iload_n h dX12_layCouple_14 rfl 2 rfl ?_
  obtain ⟨r3, s3, hq3, hf⟩ := ob_some hf
  refine r_callS1 h [.int (vI a2)] dX12_layCouple_15 (fun hs => m_Mo_otherOf hw ra2 hs hq3) ml_X12_509 cv_Mo_otherOf rfl ⟨rfl, rfl⟩ ⟨Nat.le_of_ble_eq_true rfl, Nat.le_of_ble_eq_true rfl⟩ ⟨Nat.le_of_ble_eq_true rfl, Nat.le_of_ble_eq_true rfl⟩ (Nat.le_of_ble_eq_true rfl) rfl (fun hr3 hs3 => ?_)
  refine r_imul h dX12_layCouple_18 ?_
  refine r_iadd h dX12_layCouple_19 ?_
  refine r_iload_n h dX12_layCouple_20 rfl 2 rfl ?_
  obtain ⟨r4, s4, hq4, hf⟩ := ob_some hf
  refine r_callS1 h [.int (vI a2)] dX12_layCouple_21 (fun hs => m_Mo_matterOf hw ra2 hs hq4) ml_X12_512 cv_Mo_matterOf rfl ⟨rfl, rfl⟩ ⟨Nat.le_of_ble_eq_true rfl, Nat.le_of_ble_eq_true rfl⟩ ⟨Nat.le_of_ble_eq_true rfl, Nat.le_of_ble_eq_true rfl⟩ (Nat.le_of_ble_eq_true rfl) rfl (fun hr4 hs4 => ?_)
  refine r_iadd h dX12_layCouple_24 ?_
  obtain ⟨hi5, hf⟩ := oc_some hf
  refine r_iast h dX12_layCouple_25 hq1.2 rC_122 ra1 (N := 12) (by rw [rN_122]; rfl) (j := (a1).toNat) rfl hi5 (rI_iw _) ?_
  refine r_os hf (fun s6 hf => ?_)
  refine r_rS h (fun hs6 => ?_)
  exact r_ret0 (x := 0) hr dX12_layCouple_26 hf
set_option maxRecDepth 20000 in
theorem b_Mo_coverByThree_33 {l : Launch} {D : va_G} {cs : Nat → ClassId} {aS aV : Nat} {A : Nat → Prop} {K : KT} {ad : Nat → Nat} {n : Nat} {nl : Nat → Nat → Bool} {out : Int × SS} (h : w_Cl l rm_Mo_coverByThree D cs aS aV A cX12_coverByThree 6 RX12 "coverByThree" K) (hr : w_Rt 1 cX12_coverByThree 0 0 (w_Po ad n nl out) K) (hw : w_WH n nl) (ht : 86 < n) {y1 : Int} (ry1 : rI y1) {y2 : Int} (ry2 : rI y2) {y3 : Int} (ry3 : rI y3) {y4 : Int} (ry4 : rI y4) (self2 : Int → SS → OO) (hself2 : ∀ (x3 : Int) (τ : SS), rI x3 → self2 x3 τ = some out → K ad n nl 0 0 2 [(0, .ref (ad 86)), (1, .int (vI y1)), (2, .int (vI y2)), (3, .int (vI x3))] [] τ) (self12 : Int → SS → OO) (hself12 : ∀ (x4 : Int) (τ : SS), rI x4 → self12 x4 τ = some out → K ad n nl 0 0 12 [(0, .ref (ad 86)), (1, .int (vI y1)), (2, .int (vI y2)), (3, .int (vI y3)), (4, .int (vI x4))] [] τ) : ∀ (fu : Nat) (x5 : Int) (s0 : SS), rI x5 → l_Mo_coverByThree_33 self2 self12 y1 y2 y3 y4 fu x5 s0 = some out → K ad n nl 0 0 33 [(0, .ref (ad 86)), (1, .int (vI y1)), (2, .int (vI y2)), (3, .int (vI y3)), (4, .int (vI y4)), (5, .int (vI x5))] [] s0 := by
  intro fu
  induction fu with
  | zero =>
    intro x5 s0 rx5 hf
    rw [l_Mo_coverByThree_33] at hf
    cases hf
  | succ fu ih =>
    intro x5 s0 rx5 hf
    rw [l_Mo_coverByThree_33] at hf
    refine r_rS h (fun hs0 => ?_)
    refine r_iload h dX12_coverByThree_33 5 rfl ?_
    refine r_iload_n h dX12_coverByThree_35 rfl 1 rfl ?_
    refine r_icmp_ge (tgt := 111) h dX12_coverByThree_36 (by decide) rx5 ry1 (fun hc1 => ?_) (fun hc1 => ?_)
    · have hf := ite_t hc1 hf
      refine r_iinc h [(4, .int (vI (iw (y4 + 1)))), (0, .ref (ad 86)), (1, .int (vI y1)), (2, .int (vI y2)), (3, .int (vI y3)), (5, .int (vI x5))] dX12_coverByThree_111 4 rfl (by decide) rfl ?_
      refine r_goto (tgt := 12) h dX12_coverByThree_114 (by decide) ?_
      refine r_sub h [1, 2, 3, 4, 0] rfl ?_
      exact hself12 (iw (y4 + 1)) s0 (rI_iw _) hf
    · have hf := ite_f hc1 hf
      refine r_aload_n h dX12_coverByThree_39 rfl 0 rfl ?_
      have hq2 := w_ref hw ht rC_86 (by decide) (k := 69) (by decide) rf_12_69
      refine g_X12_134 h dX12_coverByThree_40 ht rC_86 hq2.1 ?_
      refine r_iload h dX12_coverByThree_43 4 rfl ?_
      obtain ⟨hi3, hf⟩ := oc_some hf
      refine r_iald h dX12_coverByThree_45 hq2.2 rC_125 ry4 (N := 216) (by rw [rN_125]; rfl) (j := (y4).toNat) rfl hi3 ?_
      refine r_if_le (tgt := 111) h dX12_coverByThree_46 (by decide) (hs0.1 _ _) (fun hc4 => ?_) (fun hc4 => ?_)
      · have hf := ite_t hc4 hf
        refine r_iinc h [(4, .int (vI (iw (y4 + 1)))), (0, .ref (ad 86)), (1, .int (vI y1)), (2, .int (vI y2)), (3, .int (vI y3)), (5, .int (vI x5))] dX12_coverByThree_111 4 rfl (by decide) rfl ?_
        refine r_goto (tgt := 12) h dX12_coverByThree_114 (by decide) ?_
        refine r_sub h [1, 2, 3, 4, 0] rfl ?_
        exact hself12 (iw (y4 + 1)) s0 (rI_iw _) hf
      · have hf := ite_f hc4 hf
        refine r_aload_n h dX12_coverByThree_49 rfl 0 rfl ?_
        have hq5 := w_ref hw ht rC_86 (by decide) (k := 69) (by decide) rf_12_69
        refine g_X12_134 h dX12_coverByThree_50 ht rC_86 hq5.1 ?_
        refine r_iload_n h dX12_coverByThree_53 rfl 3 rfl ?_
        obtain ⟨hi6, hf⟩ := oc_some hf
        refine r_iald h dX12_coverByThree_54 hq5.2 rC_125 ry3 (N := 216) (by rw [rN_125]; rfl) (j := (y3).toNat) rfl hi6 ?_
        refine r_aload_n h dX12_coverByThree_55 rfl 0 rfl ?_
        have hq7 := w_ref hw ht rC_86 (by decide) (k := 69) (by decide) rf_12_69
        refine g_X12_134 h dX12_coverByThree_56 ht rC_86 hq7.1 ?_
        refine r_iload h dX12_coverByThree_59 4 rfl ?_
        obtain ⟨hi8, hf⟩ := oc_some hf
        refine r_iald h dX12_coverByThree_61 hq7.2 rC_125 ry4 (N := 216) (by rw [rN_125]; rfl) (j := (y4).toNat) rfl hi8 ?_
        refine r_ior h dX12_coverByThree_62 ?_
        refine r_aload_n h dX12_coverByThree_63 rfl 0 rfl ?_
        have hq9 := w_ref hw ht rC_86 (by decide) (k := 69) (by decide) rf_12_69
        refine g_X12_134 h dX12_coverByThree_64 ht rC_86 hq9.1 ?_
        refine r_iload h dX12_coverByThree_67 5 rfl ?_
        obtain ⟨hi10, hf⟩ := oc_some hf
        refine r_iald h dX12_coverByThree_69 hq9.2 rC_125 rx5 (N := 216) (by rw [rN_125]; rfl) (j := (x5).toNat) rfl hi10 ?_
        refine r_ior h dX12_coverByThree_70 ?_
        refine r_iload_n h dX12_coverByThree_71 rfl 2 rfl ?_
        refine r_icmp_eq (tgt := 78) h dX12_coverByThree_72 (by decide) (rI_zor _ _) ry2 (fun hc11 => ?_) (fun hc11 => ?_)
        · have hf := ite_t hc11 hf
          refine r_aload_n h dX12_coverByThree_78 rfl 0 rfl ?_
          refine r_iconst h dX12_coverByThree_79 ?_
          refine r_iload_n h dX12_coverByThree_80 rfl 3 rfl ?_
          obtain ⟨r12, s12, hq12, hf⟩ := ob_some hf
          refine r_callV0 h [.int (vI 0), .int (vI y3)] dX12_coverByThree_81 (fun hs => m_Mo_layCouple hw ht (rIc rfl) ry3 hs hq12) ml_X12_541 cv_Mo_layCouple rfl (co := 12) rfl (by decide) ht rC_86 ⟨rfl, rfl⟩ ⟨Nat.le_of_ble_eq_true rfl, Nat.le_of_ble_eq_true rfl⟩ ⟨Nat.le_of_ble_eq_true rfl, Nat.le_of_ble_eq_true rfl⟩ (Nat.le_of_ble_eq_true rfl) rfl (fun hr12 hs12 => ?_)
          refine r_aload_n h dX12_coverByThree_84 rfl 0 rfl ?_
          refine r_iconst h dX12_coverByThree_85 ?_
          refine r_iload h dX12_coverByThree_86 4 rfl ?_
          obtain ⟨r13, s13, hq13, hf⟩ := ob_some hf
          refine r_callV0 h [.int (vI 1), .int (vI y4)] dX12_coverByThree_88 (fun hs => m_Mo_layCouple hw ht (rIc rfl) ry4 hs hq13) ml_X12_541 cv_Mo_layCouple rfl (co := 12) rfl (by decide) ht rC_86 ⟨rfl, rfl⟩ ⟨Nat.le_of_ble_eq_true rfl, Nat.le_of_ble_eq_true rfl⟩ ⟨Nat.le_of_ble_eq_true rfl, Nat.le_of_ble_eq_true rfl⟩ (Nat.le_of_ble_eq_true rfl) rfl (fun hr13 hs13 => ?_)
          refine r_aload_n h dX12_coverByThree_91 rfl 0 rfl ?_
          refine r_iconst h dX12_coverByThree_92 ?_
          refine r_iload h dX12_coverByThree_93 5 rfl ?_
          obtain ⟨r14, s14, hq14, hf⟩ := ob_some hf
          refine r_callV0 h [.int (vI 2), .int (vI x5)] dX12_coverByThree_95 (fun hs => m_Mo_layCouple hw ht (rIc rfl) rx5 hs hq14) ml_X12_541 cv_Mo_layCouple rfl (co := 12) rfl (by decide) ht rC_86 ⟨rfl, rfl⟩ ⟨Nat.le_of_ble_eq_true rfl, Nat.le_of_ble_eq_true rfl⟩ ⟨Nat.le_of_ble_eq_true rfl, Nat.le_of_ble_eq_true rfl⟩ (Nat.le_of_ble_eq_true rfl) rfl (fun hr14 hs14 => ?_)
          refine r_aload_n h dX12_coverByThree_98 rfl 0 rfl ?_
          refine r_iconst h dX12_coverByThree_99 ?_
          refine p_X12_466 h dX12_coverByThree_100 ht rC_86 (rIc rfl) ?_
          refine r_os hf (fun s15 hf => ?_)
          refine r_rS h (fun hs15 => ?_)
          refine r_iconst h dX12_coverByThree_103 ?_
          exact r_ret1 hr dX12_coverByThree_104 (rIc rfl) hf
        · have hf := ite_f hc11 hf
          refine r_goto (tgt := 105) h dX12_coverByThree_75 (by decide) ?_
          refine r_iinc h [(5, .int (vI (iw (x5 + 1)))), (0, .ref (ad 86)), (1, .int (vI y1)), (2, .int (vI y2)), (3, .int (vI y3)), (4, .int (vI y4))] dX12_coverByThree_105 5 rfl (by decide) rfl ?_
          refine r_goto (tgt := 33) h dX12_coverByThree_108 (by decide) ?_
          refine r_sub h [1, 2, 3, 4, 5, 0] rfl ?_
          exact ih (iw (x5 + 1)) s0 (rI_iw _) hf
set_option maxRecDepth 20000 in
theorem b_Mo_coverByThree_12 {l : Launch} {D : va_G} {cs : Nat → ClassId} {aS aV : Nat} {A : Nat → Prop} {K : KT} {ad : Nat → Nat} {n : Nat} {nl : Nat → Nat → Bool} {out : Int × SS} (h : w_Cl l rm_Mo_coverByThree D cs aS aV A cX12_coverByThree 6 RX12 "coverByThree" K) (hr : w_Rt 1 cX12_coverByThree 0 0 (w_Po ad n nl out) K) (hw : w_WH n nl) (ht : 86 < n) {y1 : Int} (ry1 : rI y1) {y2 : Int} (ry2 : rI y2) {y3 : Int} (ry3 : rI y3) (self2 : Int → SS → OO) (hself2 : ∀ (x3 : Int) (τ : SS), rI x3 → self2 x3 τ = some out → K ad n nl 0 0 2 [(0, .ref (ad 86)), (1, .int (vI y1)), (2, .int (vI y2)), (3, .int (vI x3))] [] τ) : ∀ (fu : Nat) (x4 : Int) (s0 : SS), rI x4 → l_Mo_coverByThree_12 self2 y1 y2 y3 fu x4 s0 = some out → K ad n nl 0 0 12 [(0, .ref (ad 86)), (1, .int (vI y1)), (2, .int (vI y2)), (3, .int (vI y3)), (4, .int (vI x4))] [] s0 := by
  intro fu
  induction fu with
  | zero =>
    intro x4 s0 rx4 hf
    rw [l_Mo_coverByThree_12] at hf
    cases hf
  | succ fu ih =>
    intro x4 s0 rx4 hf
    rw [l_Mo_coverByThree_12] at hf
    refine r_rS h (fun hs0 => ?_)
    refine r_iload h dX12_coverByThree_12 4 rfl ?_
    refine r_iload_n h dX12_coverByThree_14 rfl 1 rfl ?_
    refine r_icmp_ge (tgt := 117) h dX12_coverByThree_15 (by decide) rx4 ry1 (fun hc1 => ?_) (fun hc1 => ?_)
    · have hf := ite_t hc1 hf
      refine r_iinc h [(3, .int (vI (iw (y3 + 1)))), (0, .ref (ad 86)), (1, .int (vI y1)), (2, .int (vI y2)), (4, .int (vI x4))] dX12_coverByThree_117 3 rfl (by decide) rfl ?_
      refine r_goto (tgt := 2) h dX12_coverByThree_120 (by decide) ?_
      refine r_sub h [1, 2, 3, 0] rfl ?_
      exact hself2 (iw (y3 + 1)) s0 (rI_iw _) hf
    · have hf := ite_f hc1 hf
      refine r_aload_n h dX12_coverByThree_18 rfl 0 rfl ?_
      have hq2 := w_ref hw ht rC_86 (by decide) (k := 69) (by decide) rf_12_69
      refine g_X12_134 h dX12_coverByThree_19 ht rC_86 hq2.1 ?_
      refine r_iload_n h dX12_coverByThree_22 rfl 3 rfl ?_
      obtain ⟨hi3, hf⟩ := oc_some hf
      refine r_iald h dX12_coverByThree_23 hq2.2 rC_125 ry3 (N := 216) (by rw [rN_125]; rfl) (j := (y3).toNat) rfl hi3 ?_
      refine r_if_le (tgt := 117) h dX12_coverByThree_24 (by decide) (hs0.1 _ _) (fun hc4 => ?_) (fun hc4 => ?_)
      · have hf := ite_t hc4 hf
        refine r_iinc h [(3, .int (vI (iw (y3 + 1)))), (0, .ref (ad 86)), (1, .int (vI y1)), (2, .int (vI y2)), (4, .int (vI x4))] dX12_coverByThree_117 3 rfl (by decide) rfl ?_
        refine r_goto (tgt := 2) h dX12_coverByThree_120 (by decide) ?_
        refine r_sub h [1, 2, 3, 0] rfl ?_
        exact hself2 (iw (y3 + 1)) s0 (rI_iw _) hf
      · have hf := ite_f hc4 hf
        refine r_iload h dX12_coverByThree_27 4 rfl ?_
        refine r_iconst h dX12_coverByThree_29 ?_
        refine r_iadd h dX12_coverByThree_30 ?_
        refine r_ol hf (rI_iw _) (fun x5_ rx5_ hf => ?_)
        refine r_istore h [(5, .int (vI x5_)), (0, .ref (ad 86)), (1, .int (vI y1)), (2, .int (vI y2)), (3, .int (vI y3)), (4, .int (vI x4))] dX12_coverByThree_31 (by decide) rfl ?_
        refine r_sub h [1, 2, 3, 4, 5, 0] rfl ?_
        exact b_Mo_coverByThree_33 h hr hw ht ry1 ry2 ry3 rx4 self2 hself2 (l_Mo_coverByThree_12 self2 y1 y2 y3 fu) ih FU x5_ s0 rx5_ hf
set_option maxRecDepth 20000 in
theorem b_Mo_coverByThree_2 {l : Launch} {D : va_G} {cs : Nat → ClassId} {aS aV : Nat} {A : Nat → Prop} {K : KT} {ad : Nat → Nat} {n : Nat} {nl : Nat → Nat → Bool} {out : Int × SS} (h : w_Cl l rm_Mo_coverByThree D cs aS aV A cX12_coverByThree 6 RX12 "coverByThree" K) (hr : w_Rt 1 cX12_coverByThree 0 0 (w_Po ad n nl out) K) (hw : w_WH n nl) (ht : 86 < n) {y1 : Int} (ry1 : rI y1) {y2 : Int} (ry2 : rI y2) : ∀ (fu : Nat) (x3 : Int) (s0 : SS), rI x3 → l_Mo_coverByThree_2 y1 y2 fu x3 s0 = some out → K ad n nl 0 0 2 [(0, .ref (ad 86)), (1, .int (vI y1)), (2, .int (vI y2)), (3, .int (vI x3))] [] s0 := by
  intro fu
  induction fu with
  | zero =>
    intro x3 s0 rx3 hf
    rw [l_Mo_coverByThree_2] at hf
    cases hf
  | succ fu ih =>
    intro x3 s0 rx3 hf
    rw [l_Mo_coverByThree_2] at hf
    refine r_rS h (fun hs0 => ?_)
    refine r_iload_n h dX12_coverByThree_2 rfl 3 rfl ?_
    refine r_iload_n h dX12_coverByThree_3 rfl 1 rfl ?_
    refine r_icmp_ge (tgt := 123) h dX12_coverByThree_4 (by decide) rx3 ry1 (fun hc1 => ?_) (fun hc1 => ?_)
    · have hf := ite_t hc1 hf
      refine r_iconst h dX12_coverByThree_123 ?_
      exact r_ret1 hr dX12_coverByThree_124 (rIc rfl) hf
    · have hf := ite_f hc1 hf
      refine r_iload_n h dX12_coverByThree_7 rfl 3 rfl ?_
      refine r_iconst h dX12_coverByThree_8 ?_
      refine r_iadd h dX12_coverByThree_9 ?_
      refine r_ol hf (rI_iw _) (fun x2_ rx2_ hf => ?_)
      refine r_istore h [(4, .int (vI x2_)), (0, .ref (ad 86)), (1, .int (vI y1)), (2, .int (vI y2)), (3, .int (vI x3))] dX12_coverByThree_10 (by decide) rfl ?_
      refine r_sub h [1, 2, 3, 4, 0] rfl ?_
      exact b_Mo_coverByThree_12 h hr hw ht ry1 ry2 rx3 (l_Mo_coverByThree_2 y1 y2 fu) ih FU x2_ s0 rx2_ hf
set_option maxRecDepth 20000 in
theorem m_Mo_coverByThree {l : Launch} {D : va_G} {cs : Nat → ClassId} {aS aV : Nat} {A : Nat → Prop} {ad : Nat → Nat} {n : Nat} {nl : Nat → Nat → Bool} {out : Int × SS} (hw : w_WH n nl) (ht : 86 < n) {a1 : Int} (ra1 : rI a1) {a2 : Int} (ra2 : rI a2) {s0 : SS} (hs0 : rS s0) (hf : f_Mo_coverByThree a1 a2 s0 = some out) : w_MC l D cs aS aV A yX12_coverByThree cX12_coverByThree 6 1 rm_Mo_coverByThree ad n nl [.ref (ad 86), .int (vI a1), .int (vI a2)] s0 (w_Po ad n nl out) := by
  refine w_MC_of (by decide +kernel) (by decide) hs0 (Nat.le_of_ble_eq_true rfl) (fun K h hr => ?_)
  refine r_lv (lv' := [(0, .ref (ad 86)), (1, .int (vI a1)), (2, .int (vI a2))]) rfl ?_
  unfold f_Mo_coverByThree at hf
  refine r_rS h (fun hs0 => ?_)
  refine r_iconst h dX12_coverByThree_0 ?_
  refine r_istore_n h [(3, .int (vI 0)), (0, .ref (ad 86)), (1, .int (vI a1)), (2, .int (vI a2))] dX12_coverByThree_1 rfl (by decide) rfl ?_
  refine r_sub h [1, 2, 3, 0] rfl ?_
  exact b_Mo_coverByThree_2 h hr hw ht ra1 ra2 FU 0 s0 (rIc rfl) hf
set_option maxRecDepth 20000 in
theorem b_Mo_cover_85 {l : Launch} {D : va_G} {cs : Nat → ClassId} {aS aV : Nat} {A : Nat → Prop} {K : KT} {ad : Nat → Nat} {n : Nat} {nl : Nat → Nat → Bool} {out : Int × SS} (h : w_Cl l rm_Mo_cover D cs aS aV A cX12_cover 5 RX12 "cover" K) (hr : w_Rt 1 cX12_cover 0 0 (w_Po ad n nl out) K) (hw : w_WH n nl) (ht : 86 < n) {y1 : Int} (ry1 : rI y1) {y2 : Int} (ry2 : rI y2) {y3 : Int} (ry3 : rI y3) (self75 : Int → SS → OO) (hself75 : ∀ (x3 : Int) (τ : SS), rI x3 → self75 x3 τ = some out → K ad n nl 0 0 75 [(0, .ref (ad 86)), (1, .int (vI y1)), (2, .int (vI y2)), (3, .int (vI x3))] [] τ) : ∀ (fu : Nat) (x4 : Int) (s0 : SS), rI x4 → l_Mo_cover_85 self75 y1 y2 y3 fu x4 s0 = some out → K ad n nl 0 0 85 [(0, .ref (ad 86)), (1, .int (vI y1)), (2, .int (vI y2)), (3, .int (vI y3)), (4, .int (vI x4))] [] s0 := by
  intro fu
  induction fu with
  | zero =>
    intro x4 s0 rx4 hf
    rw [l_Mo_cover_85] at hf
    cases hf
  | succ fu ih =>
    intro x4 s0 rx4 hf
    rw [l_Mo_cover_85] at hf
    refine r_rS h (fun hs0 => ?_)
    refine r_iload h dX12_cover_85 4 rfl ?_
    refine r_iload_n h dX12_cover_87 rfl 2 rfl ?_
    refine r_icmp_ge (tgt := 147) h dX12_cover_88 (by decide) rx4 ry2 (fun hc1 => ?_) (fun hc1 => ?_)
    · have hf := ite_t hc1 hf
      refine r_iinc h [(3, .int (vI (iw (y3 + 1)))), (0, .ref (ad 86)), (1, .int (vI y1)), (2, .int (vI y2)), (4, .int (vI x4))] dX12_cover_147 3 rfl (by decide) rfl ?_
      refine r_goto (tgt := 75) h dX12_cover_150 (by decide) ?_
      refine r_sub h [1, 2, 3, 0] rfl ?_
      exact hself75 (iw (y3 + 1)) s0 (rI_iw _) hf
    · have hf := ite_f hc1 hf
      refine r_aload_n h dX12_cover_91 rfl 0 rfl ?_
      have hq2 := w_ref hw ht rC_86 (by decide) (k := 69) (by decide) rf_12_69
      refine g_X12_134 h dX12_cover_92 ht rC_86 hq2.1 ?_
      refine r_iload_n h dX12_cover_95 rfl 3 rfl ?_
      obtain ⟨hi3, hf⟩ := oc_some hf
      refine r_iald h dX12_cover_96 hq2.2 rC_125 ry3 (N := 216) (by rw [rN_125]; rfl) (j := (y3).toNat) rfl hi3 ?_
      refine r_if_le (tgt := 147) h dX12_cover_97 (by decide) (hs0.1 _ _) (fun hc4 => ?_) (fun hc4 => ?_)
      · have hf := ite_t hc4 hf
        refine r_iinc h [(3, .int (vI (iw (y3 + 1)))), (0, .ref (ad 86)), (1, .int (vI y1)), (2, .int (vI y2)), (4, .int (vI x4))] dX12_cover_147 3 rfl (by decide) rfl ?_
        refine r_goto (tgt := 75) h dX12_cover_150 (by decide) ?_
        refine r_sub h [1, 2, 3, 0] rfl ?_
        exact hself75 (iw (y3 + 1)) s0 (rI_iw _) hf
      · have hf := ite_f hc4 hf
        refine r_aload_n h dX12_cover_100 rfl 0 rfl ?_
        have hq5 := w_ref hw ht rC_86 (by decide) (k := 69) (by decide) rf_12_69
        refine g_X12_134 h dX12_cover_101 ht rC_86 hq5.1 ?_
        refine r_iload_n h dX12_cover_104 rfl 3 rfl ?_
        obtain ⟨hi6, hf⟩ := oc_some hf
        refine r_iald h dX12_cover_105 hq5.2 rC_125 ry3 (N := 216) (by rw [rN_125]; rfl) (j := (y3).toNat) rfl hi6 ?_
        refine r_aload_n h dX12_cover_106 rfl 0 rfl ?_
        have hq7 := w_ref hw ht rC_86 (by decide) (k := 69) (by decide) rf_12_69
        refine g_X12_134 h dX12_cover_107 ht rC_86 hq7.1 ?_
        refine r_iload h dX12_cover_110 4 rfl ?_
        obtain ⟨hi8, hf⟩ := oc_some hf
        refine r_iald h dX12_cover_112 hq7.2 rC_125 rx4 (N := 216) (by rw [rN_125]; rfl) (j := (x4).toNat) rfl hi8 ?_
        refine r_ior h dX12_cover_113 ?_
        refine r_iload_n h dX12_cover_114 rfl 1 rfl ?_
        refine r_icmp_eq (tgt := 121) h dX12_cover_115 (by decide) (rI_zor _ _) ry1 (fun hc9 => ?_) (fun hc9 => ?_)
        · have hf := ite_t hc9 hf
          refine r_aload_n h dX12_cover_121 rfl 0 rfl ?_
          refine r_iconst h dX12_cover_122 ?_
          refine r_iload_n h dX12_cover_123 rfl 3 rfl ?_
          obtain ⟨r10, s10, hq10, hf⟩ := ob_some hf
          refine r_callV0 h [.int (vI 0), .int (vI y3)] dX12_cover_124 (fun hs => m_Mo_layCouple hw ht (rIc rfl) ry3 hs hq10) ml_X12_541 cv_Mo_layCouple rfl (co := 12) rfl (by decide) ht rC_86 ⟨rfl, rfl⟩ ⟨Nat.le_of_ble_eq_true rfl, Nat.le_of_ble_eq_true rfl⟩ ⟨Nat.le_of_ble_eq_true rfl, Nat.le_of_ble_eq_true rfl⟩ (Nat.le_of_ble_eq_true rfl) rfl (fun hr10 hs10 => ?_)
          refine r_aload_n h dX12_cover_127 rfl 0 rfl ?_
          refine r_iconst h dX12_cover_128 ?_
          refine r_iload h dX12_cover_129 4 rfl ?_
          obtain ⟨r11, s11, hq11, hf⟩ := ob_some hf
          refine r_callV0 h [.int (vI 1), .int (vI x4)] dX12_cover_131 (fun hs => m_Mo_layCouple hw ht (rIc rfl) rx4 hs hq11) ml_X12_541 cv_Mo_layCouple rfl (co := 12) rfl (by decide) ht rC_86 ⟨rfl, rfl⟩ ⟨Nat.le_of_ble_eq_true rfl, Nat.le_of_ble_eq_true rfl⟩ ⟨Nat.le_of_ble_eq_true rfl, Nat.le_of_ble_eq_true rfl⟩ (Nat.le_of_ble_eq_true rfl) rfl (fun hr11 hs11 => ?_)
          refine r_aload_n h dX12_cover_134 rfl 0 rfl ?_
          refine r_iconst h dX12_cover_135 ?_
          refine p_X12_466 h dX12_cover_136 ht rC_86 (rIc rfl) ?_
          refine r_os hf (fun s12 hf => ?_)
          refine r_rS h (fun hs12 => ?_)
          refine r_iconst h dX12_cover_139 ?_
          exact r_ret1 hr dX12_cover_140 (rIc rfl) hf
        · have hf := ite_f hc9 hf
          refine r_goto (tgt := 141) h dX12_cover_118 (by decide) ?_
          refine r_iinc h [(4, .int (vI (iw (x4 + 1)))), (0, .ref (ad 86)), (1, .int (vI y1)), (2, .int (vI y2)), (3, .int (vI y3))] dX12_cover_141 4 rfl (by decide) rfl ?_
          refine r_goto (tgt := 85) h dX12_cover_144 (by decide) ?_
          refine r_sub h [1, 2, 3, 4, 0] rfl ?_
          exact ih (iw (x4 + 1)) s0 (rI_iw _) hf
set_option maxRecDepth 20000 in
theorem b_Mo_cover_75 {l : Launch} {D : va_G} {cs : Nat → ClassId} {aS aV : Nat} {A : Nat → Prop} {K : KT} {ad : Nat → Nat} {n : Nat} {nl : Nat → Nat → Bool} {out : Int × SS} (h : w_Cl l rm_Mo_cover D cs aS aV A cX12_cover 5 RX12 "cover" K) (hr : w_Rt 1 cX12_cover 0 0 (w_Po ad n nl out) K) (hw : w_WH n nl) (ht : 86 < n) {y1 : Int} (ry1 : rI y1) {y2 : Int} (ry2 : rI y2) : ∀ (fu : Nat) (x3 : Int) (s0 : SS), rI x3 → l_Mo_cover_75 y1 y2 fu x3 s0 = some out → K ad n nl 0 0 75 [(0, .ref (ad 86)), (1, .int (vI y1)), (2, .int (vI y2)), (3, .int (vI x3))] [] s0 := by
  intro fu
  induction fu with
  | zero =>
    intro x3 s0 rx3 hf
    rw [l_Mo_cover_75] at hf
    cases hf
  | succ fu ih =>
    intro x3 s0 rx3 hf
    rw [l_Mo_cover_75] at hf
    refine r_rS h (fun hs0 => ?_)
    refine r_iload_n h dX12_cover_75 rfl 3 rfl ?_
    refine r_iload_n h dX12_cover_76 rfl 2 rfl ?_
    refine r_icmp_ge (tgt := 153) h dX12_cover_77 (by decide) rx3 ry2 (fun hc1 => ?_) (fun hc1 => ?_)
    · have hf := ite_t hc1 hf
      refine r_aload_n h dX12_cover_153 rfl 0 rfl ?_
      refine r_iload_n h dX12_cover_154 rfl 2 rfl ?_
      refine r_iload_n h dX12_cover_155 rfl 1 rfl ?_
      obtain ⟨r2, s2, hq2, hf⟩ := ob_some hf
      refine r_callV1 h [.int (vI y2), .int (vI y1)] dX12_cover_156 (fun hs => m_Mo_coverByThree hw ht ry2 ry1 hs hq2) ml_X12_544 cv_Mo_coverByThree rfl (co := 12) rfl (by decide) ht rC_86 ⟨rfl, rfl⟩ ⟨Nat.le_of_ble_eq_true rfl, Nat.le_of_ble_eq_true rfl⟩ ⟨Nat.le_of_ble_eq_true rfl, Nat.le_of_ble_eq_true rfl⟩ (Nat.le_of_ble_eq_true rfl) rfl (fun hr2 hs2 => ?_)
      exact r_ret1 hr dX12_cover_159 hr2 hf
    · have hf := ite_f hc1 hf
      refine r_iload_n h dX12_cover_80 rfl 3 rfl ?_
      refine r_iconst h dX12_cover_81 ?_
      refine r_iadd h dX12_cover_82 ?_
      refine r_ol hf (rI_iw _) (fun x3_ rx3_ hf => ?_)
      refine r_istore h [(4, .int (vI x3_)), (0, .ref (ad 86)), (1, .int (vI y1)), (2, .int (vI y2)), (3, .int (vI x3))] dX12_cover_83 (by decide) rfl ?_
      refine r_sub h [1, 2, 3, 4, 0] rfl ?_
      exact b_Mo_cover_85 h hr hw ht ry1 ry2 rx3 (l_Mo_cover_75 y1 y2 fu) ih FU x3_ s0 rx3_ hf
set_option maxRecDepth 20000 in
theorem b_Mo_cover_36 {l : Launch} {D : va_G} {cs : Nat → ClassId} {aS aV : Nat} {A : Nat → Prop} {K : KT} {ad : Nat → Nat} {n : Nat} {nl : Nat → Nat → Bool} {out : Int × SS} (h : w_Cl l rm_Mo_cover D cs aS aV A cX12_cover 5 RX12 "cover" K) (hr : w_Rt 1 cX12_cover 0 0 (w_Po ad n nl out) K) (hw : w_WH n nl) (ht : 86 < n) {y1 : Int} (ry1 : rI y1) {y2 : Int} (ry2 : rI y2) : ∀ (fu : Nat) (x3 : Int) (s0 : SS), rI x3 → l_Mo_cover_36 y1 y2 fu x3 s0 = some out → K ad n nl 0 0 36 [(0, .ref (ad 86)), (1, .int (vI y1)), (2, .int (vI y2)), (3, .int (vI x3))] [] s0 := by
  intro fu
  induction fu with
  | zero =>
    intro x3 s0 rx3 hf
    rw [l_Mo_cover_36] at hf
    cases hf
  | succ fu ih =>
    intro x3 s0 rx3 hf
    rw [l_Mo_cover_36] at hf
    refine r_rS h (fun hs0 => ?_)
    refine r_iload_n h dX12_cover_36 rfl 3 rfl ?_
    refine r_iload_n h dX12_cover_37 rfl 2 rfl ?_
    refine r_icmp_ge (tgt := 73) h dX12_cover_38 (by decide) rx3 ry2 (fun hc1 => ?_) (fun hc1 => ?_)
    · have hf := ite_t hc1 hf
      refine r_iconst h dX12_cover_73 ?_
      refine r_istore_n h [(3, .int (vI 0)), (0, .ref (ad 86)), (1, .int (vI y1)), (2, .int (vI y2))] dX12_cover_74 rfl (by decide) rfl ?_
      refine r_sub h [1, 2, 3, 0] rfl ?_
      exact b_Mo_cover_75 h hr hw ht ry1 ry2 FU 0 s0 (rIc rfl) hf
    · have hf := ite_f hc1 hf
      refine r_aload_n h dX12_cover_41 rfl 0 rfl ?_
      have hq2 := w_ref hw ht rC_86 (by decide) (k := 69) (by decide) rf_12_69
      refine g_X12_134 h dX12_cover_42 ht rC_86 hq2.1 ?_
      refine r_iload_n h dX12_cover_45 rfl 3 rfl ?_
      obtain ⟨hi3, hf⟩ := oc_some hf
      refine r_iald h dX12_cover_46 hq2.2 rC_125 rx3 (N := 216) (by rw [rN_125]; rfl) (j := (x3).toNat) rfl hi3 ?_
      refine r_iload_n h dX12_cover_47 rfl 1 rfl ?_
      refine r_icmp_eq (tgt := 54) h dX12_cover_48 (by decide) (hs0.1 _ _) ry1 (fun hc4 => ?_) (fun hc4 => ?_)
      · have hf := ite_t hc4 hf
        refine r_aload_n h dX12_cover_54 rfl 0 rfl ?_
        refine r_iconst h dX12_cover_55 ?_
        refine r_iload_n h dX12_cover_56 rfl 3 rfl ?_
        obtain ⟨r5, s5, hq5, hf⟩ := ob_some hf
        refine r_callV0 h [.int (vI 0), .int (vI x3)] dX12_cover_57 (fun hs => m_Mo_layCouple hw ht (rIc rfl) rx3 hs hq5) ml_X12_541 cv_Mo_layCouple rfl (co := 12) rfl (by decide) ht rC_86 ⟨rfl, rfl⟩ ⟨Nat.le_of_ble_eq_true rfl, Nat.le_of_ble_eq_true rfl⟩ ⟨Nat.le_of_ble_eq_true rfl, Nat.le_of_ble_eq_true rfl⟩ (Nat.le_of_ble_eq_true rfl) rfl (fun hr5 hs5 => ?_)
        refine r_aload_n h dX12_cover_60 rfl 0 rfl ?_
        refine r_iconst h dX12_cover_61 ?_
        refine p_X12_466 h dX12_cover_62 ht rC_86 (rIc rfl) ?_
        refine r_os hf (fun s6 hf => ?_)
        refine r_rS h (fun hs6 => ?_)
        refine r_iconst h dX12_cover_65 ?_
        exact r_ret1 hr dX12_cover_66 (rIc rfl) hf
      · have hf := ite_f hc4 hf
        refine r_goto (tgt := 67) h dX12_cover_51 (by decide) ?_
        refine r_iinc h [(3, .int (vI (iw (x3 + 1)))), (0, .ref (ad 86)), (1, .int (vI y1)), (2, .int (vI y2))] dX12_cover_67 3 rfl (by decide) rfl ?_
        refine r_goto (tgt := 36) h dX12_cover_70 (by decide) ?_
        refine r_sub h [1, 2, 3, 0] rfl ?_
        exact ih (iw (x3 + 1)) s0 (rI_iw _) hf
set_option maxRecDepth 20000 in
theorem m_Mo_cover {l : Launch} {D : va_G} {cs : Nat → ClassId} {aS aV : Nat} {A : Nat → Prop} {ad : Nat → Nat} {n : Nat} {nl : Nat → Nat → Bool} {out : Int × SS} (hw : w_WH n nl) (ht : 86 < n) {s0 : SS} (hs0 : rS s0) (hf : f_Mo_cover s0 = some out) : w_MC l D cs aS aV A yX12_cover cX12_cover 5 1 rm_Mo_cover ad n nl [.ref (ad 86)] s0 (w_Po ad n nl out) := by
  refine w_MC_of (by decide +kernel) (by decide) hs0 (Nat.le_of_ble_eq_true rfl) (fun K h hr => ?_)
  refine r_lv (lv' := [(0, .ref (ad 86))]) rfl ?_
  unfold f_Mo_cover at hf
  refine r_rS h (fun hs0 => ?_)
  refine r_aload_n h dX12_cover_0 rfl 0 rfl ?_
  refine r_iconst h dX12_cover_1 ?_
  refine p_X12_466 h dX12_cover_2 ht rC_86 (rIc rfl) ?_
  refine r_os hf (fun s1 hf => ?_)
  refine r_rS h (fun hs1 => ?_)
  refine r_iconst h dX12_cover_5 ?_
  refine r_aload_n h dX12_cover_6 rfl 0 rfl ?_
  have hq2 := w_ref hw ht rC_86 (by decide) (k := 12) (by decide) rf_12_12
  refine g_X12_24 h dX12_cover_7 ht rC_86 hq2.1 ?_
  refine r_aload_n h dX12_cover_10 rfl 0 rfl ?_
  refine g_X12_295 h dX12_cover_11 ht rC_86 ?_
  obtain ⟨hi3, hf⟩ := oc_some hf
  refine r_iald h dX12_cover_14 hq2.2 rC_90 (hs1.1 _ _) (N := 2) (by rw [rN_90]; rfl) (j := (gi s1 86 40).toNat) rfl hi3 ?_
  refine r_ishl h dX12_cover_15 ?_
  refine r_iconst h dX12_cover_16 ?_
  refine r_isub h dX12_cover_17 ?_
  refine r_ol hf (rI_iw _) (fun x4_ rx4_ hf => ?_)
  refine r_istore_n h [(1, .int (vI x4_)), (0, .ref (ad 86))] dX12_cover_18 rfl (by decide) rfl ?_
  refine r_iload_n h dX12_cover_19 rfl 0 rfl ?_
  refine r_if_ne (tgt := 25) h dX12_cover_20 (by decide) rx4_ (fun hc5 => ?_) (fun hc5 => ?_)
  · have hf := ite_f hc5 hf
    refine r_aload_n h dX12_cover_25 rfl 1 rfl ?_
    obtain ⟨r6, s6, hq6, hf⟩ := ob_some hf
    refine r_callV0 h [] dX12_cover_26 (fun hs => m_Mo_layJust hw ht hs hq6) ml_X12_538 cv_Mo_layJust rfl (co := 12) rfl (by decide) ht rC_86 ⟨rfl, rfl⟩ ⟨Nat.le_of_ble_eq_true rfl, Nat.le_of_ble_eq_true rfl⟩ ⟨Nat.le_of_ble_eq_true rfl, Nat.le_of_ble_eq_true rfl⟩ (Nat.le_of_ble_eq_true rfl) rfl (fun hr6 hs6 => ?_)
    refine r_aload_n h dX12_cover_29 rfl 1 rfl ?_
    obtain ⟨r7, s7, hq7, hf⟩ := ob_some hf
    refine r_callV1 h [] dX12_cover_30 (fun hs => m_Mo_coupleMany hw ht hs hq7) ml_X12_515 cv_Mo_coupleMany rfl (co := 12) rfl (by decide) ht rC_86 ⟨rfl, rfl⟩ ⟨Nat.le_of_ble_eq_true rfl, Nat.le_of_ble_eq_true rfl⟩ ⟨Nat.le_of_ble_eq_true rfl, Nat.le_of_ble_eq_true rfl⟩ (Nat.le_of_ble_eq_true rfl) rfl (fun hr7 hs7 => ?_)
    refine r_istore_n h [(2, .int (vI r7)), (1, .int (vI x4_)), (0, .ref (ad 86))] dX12_cover_33 rfl (by decide) rfl ?_
    refine r_iconst h dX12_cover_34 ?_
    refine r_istore_n h [(3, .int (vI 0)), (2, .int (vI r7)), (1, .int (vI x4_)), (0, .ref (ad 86))] dX12_cover_35 rfl (by decide) rfl ?_
    refine r_sub h [3, 2, 1, 0] rfl ?_
    exact b_Mo_cover_36 h hr hw ht rx4_ hr7 FU 0 s7 (rIc rfl) hf
  · have hf := ite_nf hc5 hf
    refine r_iconst h dX12_cover_23 ?_
    exact r_ret1 hr dX12_cover_24 (rIc rfl) hf
set_option maxRecDepth 20000 in
theorem b_Mo_turned_27 {l : Launch} {D : va_G} {cs : Nat → ClassId} {aS aV : Nat} {A : Nat → Prop} {K : KT} {ad : Nat → Nat} {n : Nat} {nl : Nat → Nat → Bool} {out : Int × SS} (h : w_Cl l rm_Mo_turned D cs aS aV A cX12_turned 5 RX12 "turned" K) (hr : w_Rt 1 cX12_turned 0 0 (w_Po ad n nl out) K) (hw : w_WH n nl) (ht : 86 < n) {y2 : Int} (ry2 : rI y2) {y3 : Int} (ry3 : rI y3) (self4 : Int → Int → SS → OO) (hself4 : ∀ (x1 : Int) (x2 : Int) (τ : SS), rI x1 → rI x2 → self4 x1 x2 τ = some out → K ad n nl 0 0 4 [(0, .ref (ad 86)), (1, .int (vI x1)), (2, .int (vI x2))] [] τ) (self16 : Int → Int → SS → OO) (hself16 : ∀ (x1 : Int) (x3 : Int) (τ : SS), rI x1 → rI x3 → self16 x1 x3 τ = some out → K ad n nl 0 0 16 [(0, .ref (ad 86)), (1, .int (vI x1)), (2, .int (vI y2)), (3, .int (vI x3))] [] τ) : ∀ (fu : Nat) (x1 : Int) (x4 : Int) (s0 : SS), rI x1 → rI x4 → l_Mo_turned_27 self4 self16 y2 y3 fu x1 x4 s0 = some out → K ad n nl 0 0 27 [(0, .ref (ad 86)), (1, .int (vI x1)), (2, .int (vI y2)), (3, .int (vI y3)), (4, .int (vI x4))] [] s0 := by
  intro fu
  induction fu with
  | zero =>
    intro x1 x4 s0 rx1 rx4 hf
    rw [l_Mo_turned_27] at hf
    cases hf
  | succ fu ih =>
    intro x1 x4 s0 rx1 rx4 hf
    rw [l_Mo_turned_27] at hf
    refine r_rS h (fun hs0 => ?_)
    refine r_iload h dX12_turned_27 4 rfl ?_
    refine r_aload_n h dX12_turned_29 rfl 0 rfl ?_
    have hq1 := w_ref hw ht rC_86 (by decide) (k := 14) (by decide) rf_12_14
    refine g_X12_30 h dX12_turned_30 ht rC_86 hq1.1 ?_
    refine r_aload_n h dX12_turned_33 rfl 0 rfl ?_
    refine g_X12_295 h dX12_turned_34 ht rC_86 ?_
    obtain ⟨hi2, hf⟩ := oc_some hf
    refine r_iald h dX12_turned_37 hq1.2 rC_92 (hs0.1 _ _) (N := 2) (by rw [rN_92]; rfl) (j := (gi s0 86 40).toNat) rfl hi2 ?_
    refine r_icmp_ge (tgt := 74) h dX12_turned_38 (by decide) rx4 (hs0.1 _ _) (fun hc3 => ?_) (fun hc3 => ?_)
    · have hf := ite_t hc3 hf
      refine r_iinc h [(3, .int (vI (iw (y3 + 1)))), (0, .ref (ad 86)), (1, .int (vI x1)), (2, .int (vI y2)), (4, .int (vI x4))] dX12_turned_74 3 rfl (by decide) rfl ?_
      refine r_goto (tgt := 16) h dX12_turned_77 (by decide) ?_
      refine r_sub h [1, 2, 3, 0] rfl ?_
      exact hself16 x1 (iw (y3 + 1)) s0 rx1 (rI_iw _) hf
    · have hf := ite_f hc3 hf
      refine r_iload_n h dX12_turned_41 rfl 1 rfl ?_
      refine r_aload_n h dX12_turned_42 rfl 0 rfl ?_
      refine r_iload_n h dX12_turned_43 rfl 2 rfl ?_
      refine r_iload_n h dX12_turned_44 rfl 3 rfl ?_
      refine r_iload h dX12_turned_45 4 rfl ?_
      obtain ⟨r4, s4, hq4, hf⟩ := ob_some hf
      refine r_callV1 h [.int (vI y2), .int (vI y3), .int (vI x4)] dX12_turned_47 (fun hs => m_Mo_openLength hw ht ry2 ry3 rx4 hs hq4) ml_X12_439 cv_Mo_openLength rfl (co := 12) rfl (by decide) ht rC_86 ⟨rfl, rfl⟩ ⟨Nat.le_of_ble_eq_true rfl, Nat.le_of_ble_eq_true rfl⟩ ⟨Nat.le_of_ble_eq_true rfl, Nat.le_of_ble_eq_true rfl⟩ (Nat.le_of_ble_eq_true rfl) rfl (fun hr4 hs4 => ?_)
      refine r_aload_n h dX12_turned_50 rfl 0 rfl ?_
      refine r_iload_n h dX12_turned_51 rfl 3 rfl ?_
      refine r_iload_n h dX12_turned_52 rfl 2 rfl ?_
      refine r_iload h dX12_turned_53 4 rfl ?_
      obtain ⟨r5, s5, hq5, hf⟩ := ob_some hf
      refine r_callV1 h [.int (vI y3), .int (vI y2), .int (vI x4)] dX12_turned_55 (fun hs => m_Mo_openLength hw ht ry3 ry2 rx4 hs hq5) ml_X12_439 cv_Mo_openLength rfl (co := 12) rfl (by decide) ht rC_86 ⟨rfl, rfl⟩ ⟨Nat.le_of_ble_eq_true rfl, Nat.le_of_ble_eq_true rfl⟩ ⟨Nat.le_of_ble_eq_true rfl, Nat.le_of_ble_eq_true rfl⟩ (Nat.le_of_ble_eq_true rfl) rfl (fun hr5 hs5 => ?_)
      refine r_icmp_ne (tgt := 65) h dX12_turned_58 (by decide) hr4 hr5 (fun hc6 => ?_) (fun hc6 => ?_)
      · have hf := ite_f hc6 hf
        refine r_iconst h dX12_turned_65 ?_
        refine r_iadd h dX12_turned_66 ?_
        refine r_ol hf (rI_iw _) (fun x7_ rx7_ hf => ?_)
        refine r_istore_n h [(1, .int (vI x7_)), (0, .ref (ad 86)), (2, .int (vI y2)), (3, .int (vI y3)), (4, .int (vI x4))] dX12_turned_67 rfl (by decide) rfl ?_
        refine r_iinc h [(4, .int (vI (iw (x4 + 1)))), (1, .int (vI x7_)), (0, .ref (ad 86)), (2, .int (vI y2)), (3, .int (vI y3))] dX12_turned_68 4 rfl (by decide) rfl ?_
        refine r_goto (tgt := 27) h dX12_turned_71 (by decide) ?_
        refine r_sub h [2, 1, 3, 4, 0] rfl ?_
        exact ih x7_ (iw (x4 + 1)) s5 rx7_ (rI_iw _) hf
      · have hf := ite_nf hc6 hf
        refine r_iconst h dX12_turned_61 ?_
        refine r_goto (tgt := 66) h dX12_turned_62 (by decide) ?_
        refine r_iadd h dX12_turned_66 ?_
        refine r_ol hf (rI_iw _) (fun x8_ rx8_ hf => ?_)
        refine r_istore_n h [(1, .int (vI x8_)), (0, .ref (ad 86)), (2, .int (vI y2)), (3, .int (vI y3)), (4, .int (vI x4))] dX12_turned_67 rfl (by decide) rfl ?_
        refine r_iinc h [(4, .int (vI (iw (x4 + 1)))), (1, .int (vI x8_)), (0, .ref (ad 86)), (2, .int (vI y2)), (3, .int (vI y3))] dX12_turned_68 4 rfl (by decide) rfl ?_
        refine r_goto (tgt := 27) h dX12_turned_71 (by decide) ?_
        refine r_sub h [2, 1, 3, 4, 0] rfl ?_
        exact ih x8_ (iw (x4 + 1)) s5 rx8_ (rI_iw _) hf
set_option maxRecDepth 20000 in
theorem b_Mo_turned_16 {l : Launch} {D : va_G} {cs : Nat → ClassId} {aS aV : Nat} {A : Nat → Prop} {K : KT} {ad : Nat → Nat} {n : Nat} {nl : Nat → Nat → Bool} {out : Int × SS} (h : w_Cl l rm_Mo_turned D cs aS aV A cX12_turned 5 RX12 "turned" K) (hr : w_Rt 1 cX12_turned 0 0 (w_Po ad n nl out) K) (hw : w_WH n nl) (ht : 86 < n) {y2 : Int} (ry2 : rI y2) (self4 : Int → Int → SS → OO) (hself4 : ∀ (x1 : Int) (x2 : Int) (τ : SS), rI x1 → rI x2 → self4 x1 x2 τ = some out → K ad n nl 0 0 4 [(0, .ref (ad 86)), (1, .int (vI x1)), (2, .int (vI x2))] [] τ) : ∀ (fu : Nat) (x1 : Int) (x3 : Int) (s0 : SS), rI x1 → rI x3 → l_Mo_turned_16 self4 y2 fu x1 x3 s0 = some out → K ad n nl 0 0 16 [(0, .ref (ad 86)), (1, .int (vI x1)), (2, .int (vI y2)), (3, .int (vI x3))] [] s0 := by
  intro fu
  induction fu with
  | zero =>
    intro x1 x3 s0 rx1 rx3 hf
    rw [l_Mo_turned_16] at hf
    cases hf
  | succ fu ih =>
    intro x1 x3 s0 rx1 rx3 hf
    rw [l_Mo_turned_16] at hf
    refine r_rS h (fun hs0 => ?_)
    refine r_iload_n h dX12_turned_16 rfl 3 rfl ?_
    refine r_aload_n h dX12_turned_17 rfl 0 rfl ?_
    obtain ⟨r1, s1, hq1, hf⟩ := ob_some hf
    refine r_callV1 h [] dX12_turned_18 (fun hs => m_Mo_soulMany hw ht hs hq1) ml_X12_404 cv_Mo_soulMany rfl (co := 12) rfl (by decide) ht rC_86 ⟨rfl, rfl⟩ ⟨Nat.le_of_ble_eq_true rfl, Nat.le_of_ble_eq_true rfl⟩ ⟨Nat.le_of_ble_eq_true rfl, Nat.le_of_ble_eq_true rfl⟩ (Nat.le_of_ble_eq_true rfl) rfl (fun hr1 hs1 => ?_)
    refine r_icmp_ge (tgt := 80) h dX12_turned_21 (by decide) rx3 hr1 (fun hc2 => ?_) (fun hc2 => ?_)
    · have hf := ite_t hc2 hf
      refine r_iinc h [(2, .int (vI (iw (y2 + 1)))), (0, .ref (ad 86)), (1, .int (vI x1)), (3, .int (vI x3))] dX12_turned_80 2 rfl (by decide) rfl ?_
      refine r_goto (tgt := 4) h dX12_turned_83 (by decide) ?_
      refine r_sub h [1, 2, 0] rfl ?_
      exact hself4 x1 (iw (y2 + 1)) s1 rx1 (rI_iw _) hf
    · have hf := ite_f hc2 hf
      refine r_iconst h dX12_turned_24 ?_
      refine r_istore h [(4, .int (vI 0)), (0, .ref (ad 86)), (1, .int (vI x1)), (2, .int (vI y2)), (3, .int (vI x3))] dX12_turned_25 (by decide) rfl ?_
      refine r_sub h [1, 2, 3, 4, 0] rfl ?_
      exact b_Mo_turned_27 h hr hw ht ry2 rx3 self4 hself4 (l_Mo_turned_16 self4 y2 fu) ih FU x1 0 s1 rx1 (rIc rfl) hf
set_option maxRecDepth 20000 in
theorem b_Mo_turned_4 {l : Launch} {D : va_G} {cs : Nat → ClassId} {aS aV : Nat} {A : Nat → Prop} {K : KT} {ad : Nat → Nat} {n : Nat} {nl : Nat → Nat → Bool} {out : Int × SS} (h : w_Cl l rm_Mo_turned D cs aS aV A cX12_turned 5 RX12 "turned" K) (hr : w_Rt 1 cX12_turned 0 0 (w_Po ad n nl out) K) (hw : w_WH n nl) (ht : 86 < n) : ∀ (fu : Nat) (x1 : Int) (x2 : Int) (s0 : SS), rI x1 → rI x2 → l_Mo_turned_4 fu x1 x2 s0 = some out → K ad n nl 0 0 4 [(0, .ref (ad 86)), (1, .int (vI x1)), (2, .int (vI x2))] [] s0 := by
  intro fu
  induction fu with
  | zero =>
    intro x1 x2 s0 rx1 rx2 hf
    rw [l_Mo_turned_4] at hf
    cases hf
  | succ fu ih =>
    intro x1 x2 s0 rx1 rx2 hf
    rw [l_Mo_turned_4] at hf
    refine r_rS h (fun hs0 => ?_)
    refine r_iload_n h dX12_turned_4 rfl 2 rfl ?_
    refine r_aload_n h dX12_turned_5 rfl 0 rfl ?_
    obtain ⟨r1, s1, hq1, hf⟩ := ob_some hf
    refine r_callV1 h [] dX12_turned_6 (fun hs => m_Mo_soulMany hw ht hs hq1) ml_X12_404 cv_Mo_soulMany rfl (co := 12) rfl (by decide) ht rC_86 ⟨rfl, rfl⟩ ⟨Nat.le_of_ble_eq_true rfl, Nat.le_of_ble_eq_true rfl⟩ ⟨Nat.le_of_ble_eq_true rfl, Nat.le_of_ble_eq_true rfl⟩ (Nat.le_of_ble_eq_true rfl) rfl (fun hr1 hs1 => ?_)
    refine r_icmp_ge (tgt := 86) h dX12_turned_9 (by decide) rx2 hr1 (fun hc2 => ?_) (fun hc2 => ?_)
    · have hf := ite_t hc2 hf
      refine r_iload_n h dX12_turned_86 rfl 1 rfl ?_
      exact r_ret1 hr dX12_turned_87 rx1 hf
    · have hf := ite_f hc2 hf
      refine r_iload_n h dX12_turned_12 rfl 2 rfl ?_
      refine r_iconst h dX12_turned_13 ?_
      refine r_iadd h dX12_turned_14 ?_
      refine r_ol hf (rI_iw _) (fun x3_ rx3_ hf => ?_)
      refine r_istore_n h [(3, .int (vI x3_)), (0, .ref (ad 86)), (1, .int (vI x1)), (2, .int (vI x2))] dX12_turned_15 rfl (by decide) rfl ?_
      refine r_sub h [1, 2, 3, 0] rfl ?_
      exact b_Mo_turned_16 h hr hw ht rx2 (l_Mo_turned_4 fu) ih FU x1 x3_ s1 rx1 rx3_ hf
set_option maxRecDepth 20000 in
theorem m_Mo_turned {l : Launch} {D : va_G} {cs : Nat → ClassId} {aS aV : Nat} {A : Nat → Prop} {ad : Nat → Nat} {n : Nat} {nl : Nat → Nat → Bool} {out : Int × SS} (hw : w_WH n nl) (ht : 86 < n) {s0 : SS} (hs0 : rS s0) (hf : f_Mo_turned s0 = some out) : w_MC l D cs aS aV A yX12_turned cX12_turned 5 1 rm_Mo_turned ad n nl [.ref (ad 86)] s0 (w_Po ad n nl out) := by
  refine w_MC_of (by decide +kernel) (by decide) hs0 (Nat.le_of_ble_eq_true rfl) (fun K h hr => ?_)
  refine r_lv (lv' := [(0, .ref (ad 86))]) rfl ?_
  unfold f_Mo_turned at hf
  refine r_rS h (fun hs0 => ?_)
  refine r_iconst h dX12_turned_0 ?_
  refine r_istore_n h [(1, .int (vI 0)), (0, .ref (ad 86))] dX12_turned_1 rfl (by decide) rfl ?_
  refine r_iconst h dX12_turned_2 ?_
  refine r_istore_n h [(2, .int (vI 0)), (1, .int (vI 0)), (0, .ref (ad 86))] dX12_turned_3 rfl (by decide) rfl ?_
  refine r_sub h [2, 1, 0] rfl ?_
  exact b_Mo_turned_4 h hr hw ht FU 0 0 s0 (rIc rfl) (rIc rfl) hf
set_option maxRecDepth 20000 in
theorem b_Mo_loud_73 {l : Launch} {D : va_G} {cs : Nat → ClassId} {aS aV : Nat} {A : Nat → Prop} {K : KT} {ad : Nat → Nat} {n : Nat} {nl : Nat → Nat → Bool} {out : Int × SS} (h : w_Cl l rm_Mo_loud D cs aS aV A cX12_loud 7 RX12 "loud" K) (hr : w_Rt 1 cX12_loud 0 0 (w_Po ad n nl out) K) (hw : w_WH n nl) (ht : 86 < n) (x4 : Int) (x5 : Int) (x6 : Int) (self40 : Int → Int → SS → OO) (hself40 : ∀ (x5 : Int) (x6 : Int) (τ : SS), rI x5 → rI x6 → self40 x5 x6 τ = some out → K ad n nl 0 0 40 [(0, .ref (ad 86)), (4, .int (vI x4)), (5, .int (vI x5)), (6, .int (vI x6))] [] τ) (s0 : SS) (rx4 : rI x4) (rx5 : rI x5) (rx6 : rI x6) (hf : j_Mo_loud_73 self40 x4 x5 x6 s0 = some out) : K ad n nl 0 0 73 [(0, .ref (ad 86)), (4, .int (vI x4)), (5, .int (vI x5)), (6, .int (vI x6))] [] s0 := by
  unfold j_Mo_loud_73 at hf
  refine r_rS h (fun hs0 => ?_)
  refine r_aload_n h dX12_loud_73 rfl 0 rfl ?_
  refine r_aload_n h dX12_loud_74 rfl 0 rfl ?_
  have hq1 := w_ref hw ht rC_86 (by decide) (k := 53) (by decide) rf_12_53
  refine g_X12_113 h dX12_loud_75 ht rC_86 hq1.1 ?_
  refine r_iconst h dX12_loud_78 ?_
  refine r_iconst h dX12_loud_79 ?_
  obtain ⟨r2, s2, hq2, hf⟩ := ob_some hf
  refine r_callV0 h [.ref (ad 119), .int (vI (-1)), .int (vI (-1))] dX12_loud_80 (fun hs => m_Mo_say hw ht hq1.2 rC_119 (rIc rfl) (rIc rfl) hs hq2) ml_X12_428 cv_Mo_say rfl (co := 12) rfl (by decide) ht rC_86 ⟨rfl, rfl⟩ ⟨Nat.le_of_ble_eq_true rfl, Nat.le_of_ble_eq_true rfl⟩ ⟨Nat.le_of_ble_eq_true rfl, Nat.le_of_ble_eq_true rfl⟩ (Nat.le_of_ble_eq_true rfl) rfl (fun hr2 hs2 => ?_)
  refine r_aload_n h dX12_loud_83 rfl 0 rfl ?_
  have hq3 := w_ref hw ht rC_86 (by decide) (k := 53) (by decide) rf_12_53
  refine g_X12_113 h dX12_loud_84 ht rC_86 hq3.1 ?_
  refine r_bipush h dX12_loud_87 (by decide) ?_
  refine r_iald h dX12_loud_89 hq3.2 rC_119 (rIc rfl) (N := 44) (by rw [rN_119]; rfl) (j := 20) rfl (by decide) ?_
  refine r_iload h dX12_loud_90 2 rfl ?_
  refine r_icmp_gt (tgt := 98) h dX12_loud_92 (by decide) (hs2.1 _ _) rx5 (fun hc4 => ?_) (fun hc4 => ?_)
  · have hf := ite_t hc4 hf
    refine r_aload_n h dX12_loud_98 rfl 0 rfl ?_
    have hq5 := w_ref hw ht rC_86 (by decide) (k := 53) (by decide) rf_12_53
    refine g_X12_113 h dX12_loud_99 ht rC_86 hq5.1 ?_
    refine r_bipush h dX12_loud_102 (by decide) ?_
    refine r_iald h dX12_loud_104 hq5.2 rC_119 (rIc rfl) (N := 44) (by rw [rN_119]; rfl) (j := 20) rfl (by decide) ?_
    refine r_ol hf (hs2.1 _ _) (fun x6_ rx6_ hf => ?_)
    refine r_istore h [(5, .int (vI x6_)), (0, .ref (ad 86)), (4, .int (vI x4)), (6, .int (vI x6))] dX12_loud_105 (by decide) rfl ?_
    refine r_aload_n h dX12_loud_107 rfl 1 rfl ?_
    have hq7 := w_ref hw ht rC_86 (by decide) (k := 53) (by decide) rf_12_53
    refine g_X12_113 h dX12_loud_108 ht rC_86 hq7.1 ?_
    refine r_bipush h dX12_loud_111 (by decide) ?_
    refine r_iald h dX12_loud_113 hq7.2 rC_119 (rIc rfl) (N := 44) (by rw [rN_119]; rfl) (j := 19) rfl (by decide) ?_
    refine r_ol hf (hs2.1 _ _) (fun x8_ rx8_ hf => ?_)
    refine r_istore h [(6, .int (vI x8_)), (5, .int (vI x6_)), (0, .ref (ad 86)), (4, .int (vI x4))] dX12_loud_114 (by decide) rfl ?_
    refine r_goto (tgt := 40) h dX12_loud_116 (by decide) ?_
    refine r_sub h [2, 3, 1, 0] rfl ?_
    exact hself40 x6_ x8_ s2 rx6_ rx8_ hf
  · have hf := ite_f hc4 hf
    refine r_goto (tgt := 40) h dX12_loud_95 (by decide) ?_
    exact hself40 x5 x6 s2 rx5 rx6 hf
set_option maxRecDepth 20000 in
theorem b_Mo_loud_119 {l : Launch} {D : va_G} {cs : Nat → ClassId} {aS aV : Nat} {A : Nat → Prop} {K : KT} {ad : Nat → Nat} {n : Nat} {nl : Nat → Nat → Bool} {out : Int × SS} (h : w_Cl l rm_Mo_loud D cs aS aV A cX12_loud 7 RX12 "loud" K) (hr : w_Rt 1 cX12_loud 0 0 (w_Po ad n nl out) K) (hw : w_WH n nl) (ht : 86 < n) (x4 : Int) (x5 : Int) (x6 : Int) (s0 : SS) (rx4 : rI x4) (rx5 : rI x5) (rx6 : rI x6) (hf : j_Mo_loud_119 x4 x5 x6 s0 = some out) : K ad n nl 0 0 119 [(4, .int (vI x4)), (5, .int (vI x5)), (6, .int (vI x6))] [] s0 := by
  unfold j_Mo_loud_119 at hf
  refine r_rS h (fun hs0 => ?_)
  refine r_iload h dX12_loud_119 0 rfl ?_
  refine r_if_ne (tgt := 129) h dX12_loud_121 (by decide) rx4 (fun hc1 => ?_) (fun hc1 => ?_)
  · have hf := ite_f hc1 hf
    refine r_iload h dX12_loud_129 2 rfl ?_
    exact r_ret1 hr dX12_loud_131 rx6 hf
  · have hf := ite_nf hc1 hf
    refine r_iload h dX12_loud_124 1 rfl ?_
    refine r_goto (tgt := 131) h dX12_loud_126 (by decide) ?_
    exact r_ret1 hr dX12_loud_131 rx5 hf
set_option maxRecDepth 20000 in
theorem b_Mo_loud_40 {l : Launch} {D : va_G} {cs : Nat → ClassId} {aS aV : Nat} {A : Nat → Prop} {K : KT} {ad : Nat → Nat} {n : Nat} {nl : Nat → Nat → Bool} {out : Int × SS} (h : w_Cl l rm_Mo_loud D cs aS aV A cX12_loud 7 RX12 "loud" K) (hr : w_Rt 1 cX12_loud 0 0 (w_Po ad n nl out) K) (hw : w_WH n nl) (ht : 86 < n) {y4 : Int} (ry4 : rI y4) : ∀ (fu : Nat) (x5 : Int) (x6 : Int) (s0 : SS), rI x5 → rI x6 → l_Mo_loud_40 y4 fu x5 x6 s0 = some out → K ad n nl 0 0 40 [(0, .ref (ad 86)), (4, .int (vI y4)), (5, .int (vI x5)), (6, .int (vI x6))] [] s0 := by
  intro fu
  induction fu with
  | zero =>
    intro x5 x6 s0 rx5 rx6 hf
    rw [l_Mo_loud_40] at hf
    cases hf
  | succ fu ih =>
    intro x5 x6 s0 rx5 rx6 hf
    rw [l_Mo_loud_40] at hf
    refine r_rS h (fun hs0 => ?_)
    refine r_aload_n h dX12_loud_40 rfl 0 rfl ?_
    have hq1 := w_ref hw ht rC_86 (by decide) (k := 53) (by decide) rf_12_53
    refine g_X12_113 h dX12_loud_41 ht rC_86 hq1.1 ?_
    refine r_bipush h dX12_loud_44 (by decide) ?_
    refine r_iald h dX12_loud_46 hq1.2 rC_119 (rIc rfl) (N := 44) (by rw [rN_119]; rfl) (j := 19) rfl (by decide) ?_
    refine r_sipush h dX12_loud_47 (by decide) ?_
    refine r_icmp_ge (tgt := 119) h dX12_loud_50 (by decide) (hs0.1 _ _) (rIc rfl) (fun hc2 => ?_) (fun hc2 => ?_)
    · have hf := ite_t hc2 hf
      refine r_sub h [1, 2, 3] rfl ?_
      exact b_Mo_loud_119 h hr hw ht y4 x5 x6 s0 ry4 rx5 rx6 hf
    · have hf := ite_f hc2 hf
      refine r_aload_n h dX12_loud_53 rfl 0 rfl ?_
      have hq3 := w_ref hw ht rC_86 (by decide) (k := 53) (by decide) rf_12_53
      refine g_X12_113 h dX12_loud_54 ht rC_86 hq3.1 ?_
      refine r_bipush h dX12_loud_57 (by decide) ?_
      refine r_iald h dX12_loud_59 hq3.2 rC_119 (rIc rfl) (N := 44) (by rw [rN_119]; rfl) (j := 19) rfl (by decide) ?_
      refine r_if_eq (tgt := 73) h dX12_loud_60 (by decide) (hs0.1 _ _) (fun hc4 => ?_) (fun hc4 => ?_)
      · have hf := ite_t hc4 hf
        exact b_Mo_loud_73 h hr hw ht y4 x5 x6 (l_Mo_loud_40 y4 fu) ih s0 ry4 rx5 rx6 hf
      · have hf := ite_f hc4 hf
        refine r_aload_n h dX12_loud_63 rfl 0 rfl ?_
        have hq5 := w_ref hw ht rC_86 (by decide) (k := 53) (by decide) rf_12_53
        refine g_X12_113 h dX12_loud_64 ht rC_86 hq5.1 ?_
        obtain ⟨r6, s6, hq6, hf⟩ := ob_some hf
        refine r_callS2 h [.ref (ad 119)] dX12_loud_67 (fun hs => m_Mo_isEnded hw hq5.2 rC_119 hs hq6) ml_X12_432 cv_Mo_isEnded rfl ⟨rfl, rfl⟩ ⟨Nat.le_of_ble_eq_true rfl, Nat.le_of_ble_eq_true rfl⟩ ⟨Nat.le_of_ble_eq_true rfl, Nat.le_of_ble_eq_true rfl⟩ (Nat.le_of_ble_eq_true rfl) rfl (fun hr6 hs6 => ?_)
        refine r_if_ne (tgt := 119) h dX12_loud_70 (by decide) (rI_b hr6) (fun hc7 => ?_) (fun hc7 => ?_)
        · have hf := ite_f hc7 hf
          refine r_sub h [1, 2, 3] rfl ?_
          exact b_Mo_loud_119 h hr hw ht y4 x5 x6 s6 ry4 rx5 rx6 hf
        · have hf := ite_nf hc7 hf
          exact b_Mo_loud_73 h hr hw ht y4 x5 x6 (l_Mo_loud_40 y4 fu) ih s6 ry4 rx5 rx6 hf
set_option maxRecDepth 20000 in
theorem m_Mo_loud {l : Launch} {D : va_G} {cs : Nat → ClassId} {aS aV : Nat} {A : Nat → Prop} {ad : Nat → Nat} {n : Nat} {nl : Nat → Nat → Bool} {out : Int × SS} (hw : w_WH n nl) (ht : 86 < n) {a1 : Int} (ra1 : rI a1) {a2 : Int} (ra2 : rI a2) {a3 : Int} (ra3 : rI a3) {a4 : Int} (ra4 : rI a4) {s0 : SS} (hs0 : rS s0) (hf : f_Mo_loud a1 a2 a3 a4 s0 = some out) : w_MC l D cs aS aV A yX12_loud cX12_loud 7 1 rm_Mo_loud ad n nl [.ref (ad 86), .int (vI a1), .int (vI a2), .int (vI a3), .int (vI a4)] s0 (w_Po ad n nl out) := by
  refine w_MC_of (by decide +kernel) (by decide) hs0 (Nat.le_of_ble_eq_true rfl) (fun K h hr => ?_)
  refine r_lv (lv' := [(0, .ref (ad 86)), (1, .int (vI a1)), (2, .int (vI a2)), (3, .int (vI a3)), (4, .int (vI a4))]) rfl ?_
  unfold f_Mo_loud at hf
  refine r_rS h (fun hs0 => ?_)
  refine r_aload_n h dX12_loud_0 rfl 0 rfl ?_
  refine r_iload_n h dX12_loud_1 rfl 1 rfl ?_
  refine r_iload_n h dX12_loud_2 rfl 2 rfl ?_
  refine r_iload_n h dX12_loud_3 rfl 3 rfl ?_
  obtain ⟨r1, s1, hq1, hf⟩ := ob_some hf
  refine r_callV2 h [.int (vI a1), .int (vI a2), .int (vI a3)] dX12_loud_4 (fun hs => m_Mo_isCouple hw ht ra1 ra2 ra3 hs hq1) ml_X12_436 cv_Mo_isCouple rfl (co := 12) rfl (by decide) ht rC_86 ⟨rfl, rfl⟩ ⟨Nat.le_of_ble_eq_true rfl, Nat.le_of_ble_eq_true rfl⟩ ⟨Nat.le_of_ble_eq_true rfl, Nat.le_of_ble_eq_true rfl⟩ (Nat.le_of_ble_eq_true rfl) rfl (fun hr1 hs1 => ?_)
  refine r_if_eq (tgt := 20) h dX12_loud_7 (by decide) (rI_b hr1) (fun hc2 => ?_) (fun hc2 => ?_)
  · have hf := ite_t hc2 hf
    refine r_bipush h dX12_loud_20 (by decide) ?_
    exact r_ret1 hr dX12_loud_22 (rIc rfl) hf
  · have hf := ite_f hc2 hf
    refine r_iload h dX12_loud_10 4 rfl ?_
    refine r_iconst h dX12_loud_12 ?_
    refine r_iconst h dX12_loud_13 ?_
    obtain ⟨r3, s3, hq3, hf⟩ := ob_some hf
    refine r_callS2 h [.int (vI a4), .int (vI 0), .int (vI 1)] dX12_loud_14 (fun hs => m_Mo_isIn hw ra4 (rIc rfl) (rIc rfl) hs hq3) ml_X12_400 cv_Mo_isIn rfl ⟨rfl, rfl⟩ ⟨Nat.le_of_ble_eq_true rfl, Nat.le_of_ble_eq_true rfl⟩ ⟨Nat.le_of_ble_eq_true rfl, Nat.le_of_ble_eq_true rfl⟩ (Nat.le_of_ble_eq_true rfl) rfl (fun hr3 hs3 => ?_)
    refine r_if_ne (tgt := 23) h dX12_loud_17 (by decide) (rI_b hr3) (fun hc4 => ?_) (fun hc4 => ?_)
    · have hf := ite_f hc4 hf
      refine r_aload_n h dX12_loud_23 rfl 0 rfl ?_
      refine r_aload_n h dX12_loud_24 rfl 0 rfl ?_
      have hq5 := w_ref hw ht rC_86 (by decide) (k := 53) (by decide) rf_12_53
      refine g_X12_113 h dX12_loud_25 ht rC_86 hq5.1 ?_
      refine r_iload_n h dX12_loud_28 rfl 1 rfl ?_
      refine r_iload_n h dX12_loud_29 rfl 2 rfl ?_
      refine r_iload_n h dX12_loud_30 rfl 3 rfl ?_
      obtain ⟨r6, s6, hq6, hf⟩ := ob_some hf
      refine r_callV0 h [.ref (ad 119), .int (vI a1), .int (vI a2), .int (vI a3)] dX12_loud_31 (fun hs => m_Mo_begin hw ht hq5.2 rC_119 ra1 ra2 ra3 hs hq6) ml_X12_424 cv_Mo_begin rfl (co := 12) rfl (by decide) ht rC_86 ⟨rfl, rfl⟩ ⟨Nat.le_of_ble_eq_true rfl, Nat.le_of_ble_eq_true rfl⟩ ⟨Nat.le_of_ble_eq_true rfl, Nat.le_of_ble_eq_true rfl⟩ (Nat.le_of_ble_eq_true rfl) rfl (fun hr6 hs6 => ?_)
      refine r_iconst h dX12_loud_34 ?_
      refine r_istore h [(5, .int (vI (-1))), (0, .ref (ad 86)), (1, .int (vI a1)), (2, .int (vI a2)), (3, .int (vI a3)), (4, .int (vI a4))] dX12_loud_35 (by decide) rfl ?_
      refine r_iconst h dX12_loud_37 ?_
      refine r_istore h [(6, .int (vI 0)), (5, .int (vI (-1))), (0, .ref (ad 86)), (1, .int (vI a1)), (2, .int (vI a2)), (3, .int (vI a3)), (4, .int (vI a4))] dX12_loud_38 (by decide) rfl ?_
      refine r_sub h [2, 6, 1, 0] rfl ?_
      exact b_Mo_loud_40 h hr hw ht ra4 FU (-1) 0 s6 (rIc rfl) (rIc rfl) hf
    · have hf := ite_nf hc4 hf
      refine r_bipush h dX12_loud_20 (by decide) ?_
      exact r_ret1 hr dX12_loud_22 (rIc rfl) hf
set_option maxRecDepth 20000 in
theorem b_Mo_doesLead_90 {l : Launch} {D : va_G} {cs : Nat → ClassId} {aS aV : Nat} {A : Nat → Prop} {K : KT} {ad : Nat → Nat} {n : Nat} {nl : Nat → Nat → Bool} {out : Int × SS} (h : w_Cl l rm_Mo_doesLead D cs aS aV A cX12_doesLead 8 RX12 "doesLead" K) (hr : w_Rt 2 cX12_doesLead 0 0 (w_Po ad n nl out) K) (hw : w_WH n nl) (ht : 86 < n) (x4 : Int) (x6 : Int) (s0 : SS) (rx4 : rI x4) (rx6 : rI x6) (hf : j_Mo_doesLead_90 x4 x6 s0 = some out) : K ad n nl 0 0 90 [(4, .int (vI x4)), (6, .int (vI x6))] [] s0 := by
  unfold j_Mo_doesLead_90 at hf
  refine r_rS h (fun hs0 => ?_)
  refine r_iload h dX12_doesLead_90 1 rfl ?_
  refine r_iload h dX12_doesLead_92 0 rfl ?_
  refine r_icmp_ne (tgt := 101) h dX12_doesLead_94 (by decide) rx6 rx4 (fun hc1 => ?_) (fun hc1 => ?_)
  · have hf := ite_f hc1 hf
    refine r_iconst h dX12_doesLead_101 ?_
    exact r_ret2 hr dX12_doesLead_102 (Or.inl rfl) hf
  · have hf := ite_nf hc1 hf
    refine r_iconst h dX12_doesLead_97 ?_
    refine r_goto (tgt := 102) h dX12_doesLead_98 (by decide) ?_
    exact r_ret2 hr dX12_doesLead_102 (Or.inr rfl) hf
set_option maxRecDepth 20000 in
theorem b_Mo_doesLead_58 {l : Launch} {D : va_G} {cs : Nat → ClassId} {aS aV : Nat} {A : Nat → Prop} {K : KT} {ad : Nat → Nat} {n : Nat} {nl : Nat → Nat → Bool} {out : Int × SS} (h : w_Cl l rm_Mo_doesLead D cs aS aV A cX12_doesLead 8 RX12 "doesLead" K) (hr : w_Rt 2 cX12_doesLead 0 0 (w_Po ad n nl out) K) (hw : w_WH n nl) (ht : 86 < n) {y2 : Int} (ry2 : rI y2) {y4 : Int} (ry4 : rI y4) : ∀ (fu : Nat) (x6 : Int) (x7 : Int) (s0 : SS), rI x6 → rI x7 → l_Mo_doesLead_58 y2 y4 fu x6 x7 s0 = some out → K ad n nl 0 0 58 [(0, .ref (ad 86)), (2, .int (vI y2)), (4, .int (vI y4)), (6, .int (vI x6)), (7, .int (vI x7))] [] s0 := by
  intro fu
  induction fu with
  | zero =>
    intro x6 x7 s0 rx6 rx7 hf
    rw [l_Mo_doesLead_58] at hf
    cases hf
  | succ fu ih =>
    intro x6 x7 s0 rx6 rx7 hf
    rw [l_Mo_doesLead_58] at hf
    refine r_rS h (fun hs0 => ?_)
    refine r_iload h dX12_doesLead_58 4 rfl ?_
    refine r_iload_n h dX12_doesLead_60 rfl 1 rfl ?_
    refine r_icmp_ge (tgt := 90) h dX12_doesLead_61 (by decide) rx7 ry2 (fun hc1 => ?_) (fun hc1 => ?_)
    · have hf := ite_t hc1 hf
      refine r_sub h [2, 3] rfl ?_
      exact b_Mo_doesLead_90 h hr hw ht y4 x6 s0 ry4 rx6 hf
    · have hf := ite_f hc1 hf
      refine r_iload h dX12_doesLead_64 3 rfl ?_
      refine r_if_lt (tgt := 90) h dX12_doesLead_66 (by decide) rx6 (fun hc2 => ?_) (fun hc2 => ?_)
      · have hf := ite_t hc2 hf
        refine r_sub h [2, 3] rfl ?_
        exact b_Mo_doesLead_90 h hr hw ht y4 x6 s0 ry4 rx6 hf
      · have hf := ite_f hc2 hf
        refine r_aload_n h dX12_doesLead_69 rfl 0 rfl ?_
        refine r_aload_n h dX12_doesLead_70 rfl 0 rfl ?_
        have hq3 := w_ref hw ht rC_86 (by decide) (k := 71) (by decide) rf_12_71
        refine g_X12_140 h dX12_doesLead_71 ht rC_86 hq3.1 ?_
        refine r_iload h dX12_doesLead_74 4 rfl ?_
        obtain ⟨hi4, hf⟩ := oc_some hf
        refine r_iald h dX12_doesLead_76 hq3.2 rC_127 rx7 (N := 4) (by rw [rN_127]; rfl) (j := (x7).toNat) rfl hi4 ?_
        refine r_iload h dX12_doesLead_77 3 rfl ?_
        obtain ⟨r5, s5, hq5, hf⟩ := ob_some hf
        refine r_callV1 h [.int (vI (gi s0 127 ((x7).toNat))), .int (vI x6)] dX12_doesLead_79 (fun hs => m_Mo_otherEnd hw ht (hs0.1 _ _) rx6 hs hq5) ml_X12_478 cv_Mo_otherEnd rfl (co := 12) rfl (by decide) ht rC_86 ⟨rfl, rfl⟩ ⟨Nat.le_of_ble_eq_true rfl, Nat.le_of_ble_eq_true rfl⟩ ⟨Nat.le_of_ble_eq_true rfl, Nat.le_of_ble_eq_true rfl⟩ (Nat.le_of_ble_eq_true rfl) rfl (fun hr5 hs5 => ?_)
        refine r_istore h [(6, .int (vI r5)), (0, .ref (ad 86)), (2, .int (vI y2)), (4, .int (vI y4)), (7, .int (vI x7))] dX12_doesLead_82 (by decide) rfl ?_
        refine r_iinc h [(7, .int (vI (iw (x7 + 1)))), (6, .int (vI r5)), (0, .ref (ad 86)), (2, .int (vI y2)), (4, .int (vI y4))] dX12_doesLead_84 4 rfl (by decide) rfl ?_
        refine r_goto (tgt := 58) h dX12_doesLead_87 (by decide) ?_
        refine r_sub h [2, 3, 4, 1, 0] rfl ?_
        exact ih r5 (iw (x7 + 1)) s5 hr5 (rI_iw _) hf
set_option maxRecDepth 20000 in
theorem b_Mo_doesLead_8 {l : Launch} {D : va_G} {cs : Nat → ClassId} {aS aV : Nat} {A : Nat → Prop} {K : KT} {ad : Nat → Nat} {n : Nat} {nl : Nat → Nat → Bool} {out : Int × SS} (h : w_Cl l rm_Mo_doesLead D cs aS aV A cX12_doesLead 8 RX12 "doesLead" K) (hr : w_Rt 2 cX12_doesLead 0 0 (w_Po ad n nl out) K) (hw : w_WH n nl) (ht : 86 < n) {y2 : Int} (ry2 : rI y2) {y3 : Int} (ry3 : rI y3) {y4 : Int} (ry4 : rI y4) : ∀ (fu : Nat) (x5 : Int) (x6 : Int) (s0 : SS), rI x5 → rI x6 → l_Mo_doesLead_8 y2 y3 y4 fu x5 x6 s0 = some out → K ad n nl 0 0 8 [(0, .ref (ad 86)), (2, .int (vI y2)), (3, .int (vI y3)), (4, .int (vI y4)), (5, .int (vI x5)), (6, .int (vI x6))] [] s0 := by
  intro fu
  induction fu with
  | zero =>
    intro x5 x6 s0 rx5 rx6 hf
    rw [l_Mo_doesLead_8] at hf
    cases hf
  | succ fu ih =>
    intro x5 x6 s0 rx5 rx6 hf
    rw [l_Mo_doesLead_8] at hf
    refine r_rS h (fun hs0 => ?_)
    refine r_iload h dX12_doesLead_8 5 rfl ?_
    refine r_if_lt (tgt := 52) h dX12_doesLead_10 (by decide) rx6 (fun hc1 => ?_) (fun hc1 => ?_)
    · have hf := ite_t hc1 hf
      refine r_iload_n h dX12_doesLead_52 rfl 2 rfl ?_
      refine r_istore h [(6, .int (vI y3)), (0, .ref (ad 86)), (2, .int (vI y2)), (3, .int (vI y3)), (4, .int (vI y4)), (5, .int (vI x5))] dX12_doesLead_53 (by decide) rfl ?_
      refine r_iconst h dX12_doesLead_55 ?_
      refine r_istore h [(7, .int (vI 0)), (6, .int (vI y3)), (0, .ref (ad 86)), (2, .int (vI y2)), (3, .int (vI y3)), (4, .int (vI y4)), (5, .int (vI x5))] dX12_doesLead_56 (by decide) rfl ?_
      refine r_sub h [2, 3, 5, 1, 0] rfl ?_
      exact b_Mo_doesLead_58 h hr hw ht ry2 ry4 FU y3 0 s0 ry3 (rIc rfl) hf
    · have hf := ite_f hc1 hf
      refine r_aload_n h dX12_doesLead_13 rfl 0 rfl ?_
      have hq2 := w_ref hw ht rC_86 (by decide) (k := 71) (by decide) rf_12_71
      refine g_X12_140 h dX12_doesLead_14 ht rC_86 hq2.1 ?_
      refine r_iload h dX12_doesLead_17 5 rfl ?_
      refine r_iload h dX12_doesLead_19 4 rfl ?_
      refine r_aload_n h dX12_doesLead_21 rfl 0 rfl ?_
      have hq3 := w_ref hw ht rC_86 (by decide) (k := 12) (by decide) rf_12_12
      refine g_X12_24 h dX12_doesLead_22 ht rC_86 hq3.1 ?_
      refine r_aload_n h dX12_doesLead_25 rfl 0 rfl ?_
      refine g_X12_295 h dX12_doesLead_26 ht rC_86 ?_
      obtain ⟨hi4, hf⟩ := oc_some hf
      refine r_iald h dX12_doesLead_29 hq3.2 rC_90 (hs0.1 _ _) (N := 2) (by rw [rN_90]; rfl) (j := (gi s0 86 40).toNat) rfl hi4 ?_
      obtain ⟨h05, hf⟩ := oc_some hf
      refine r_irem h dX12_doesLead_30 rx5 (hs0.1 _ _) h05 ?_
      obtain ⟨hi6, hf⟩ := oc_some hf
      refine r_iast h dX12_doesLead_31 hq2.2 rC_127 rx6 (N := 4) (by rw [rN_127]; rfl) (j := (x6).toNat) rfl hi6 (rI_tmod rx5 (hs0.1 _ _)) ?_
      refine r_os hf (fun s7 hf => ?_)
      refine r_rS h (fun hs7 => ?_)
      refine r_iload h dX12_doesLead_32 4 rfl ?_
      refine r_aload_n h dX12_doesLead_34 rfl 0 rfl ?_
      have hq8 := w_ref hw ht rC_86 (by decide) (k := 12) (by decide) rf_12_12
      refine g_X12_24 h dX12_doesLead_35 ht rC_86 hq8.1 ?_
      refine r_aload_n h dX12_doesLead_38 rfl 0 rfl ?_
      refine g_X12_295 h dX12_doesLead_39 ht rC_86 ?_
      obtain ⟨hi9, hf⟩ := oc_some hf
      refine r_iald h dX12_doesLead_42 hq8.2 rC_90 (hs7.1 _ _) (N := 2) (by rw [rN_90]; rfl) (j := (gi s7 86 40).toNat) rfl hi9 ?_
      obtain ⟨h010, hf⟩ := oc_some hf
      refine r_idiv h dX12_doesLead_43 rx5 (hs7.1 _ _) h010 ?_
      refine r_ol hf (rI_iw _) (fun x11_ rx11_ hf => ?_)
      refine r_istore h [(5, .int (vI x11_)), (0, .ref (ad 86)), (2, .int (vI y2)), (3, .int (vI y3)), (4, .int (vI y4)), (6, .int (vI x6))] dX12_doesLead_44 (by decide) rfl ?_
      refine r_iinc h [(6, .int (vI (iw (x6 + (-1))))), (5, .int (vI x11_)), (0, .ref (ad 86)), (2, .int (vI y2)), (3, .int (vI y3)), (4, .int (vI y4))] dX12_doesLead_46 5 rfl (by decide) rfl ?_
      refine r_goto (tgt := 8) h dX12_doesLead_49 (by decide) ?_
      refine r_sub h [2, 3, 4, 5, 1, 0] rfl ?_
      exact ih x11_ (iw (x6 + (-1))) s7 rx11_ (rI_iw _) hf
set_option maxRecDepth 20000 in
theorem m_Mo_doesLead {l : Launch} {D : va_G} {cs : Nat → ClassId} {aS aV : Nat} {A : Nat → Prop} {ad : Nat → Nat} {n : Nat} {nl : Nat → Nat → Bool} {out : Int × SS} (hw : w_WH n nl) (ht : 86 < n) {a1 : Int} (ra1 : rI a1) {a2 : Int} (ra2 : rI a2) {a3 : Int} (ra3 : rI a3) {a4 : Int} (ra4 : rI a4) {s0 : SS} (hs0 : rS s0) (hf : f_Mo_doesLead a1 a2 a3 a4 s0 = some out) : w_MC l D cs aS aV A yX12_doesLead cX12_doesLead 8 2 rm_Mo_doesLead ad n nl [.ref (ad 86), .int (vI a1), .int (vI a2), .int (vI a3), .int (vI a4)] s0 (w_Po ad n nl out) := by
  refine w_MC_of (by decide +kernel) (by decide) hs0 (Nat.le_of_ble_eq_true rfl) (fun K h hr => ?_)
  refine r_lv (lv' := [(0, .ref (ad 86)), (1, .int (vI a1)), (2, .int (vI a2)), (3, .int (vI a3)), (4, .int (vI a4))]) rfl ?_
  unfold f_Mo_doesLead at hf
  refine r_rS h (fun hs0 => ?_)
  refine r_iload_n h dX12_doesLead_0 rfl 1 rfl ?_
  refine r_istore h [(5, .int (vI a1)), (0, .ref (ad 86)), (1, .int (vI a1)), (2, .int (vI a2)), (3, .int (vI a3)), (4, .int (vI a4))] dX12_doesLead_1 (by decide) rfl ?_
  refine r_iload_n h dX12_doesLead_3 rfl 3 rfl ?_
  refine r_iconst h dX12_doesLead_4 ?_
  refine r_isub h dX12_doesLead_5 ?_
  refine r_ol hf (rI_iw _) (fun x1_ rx1_ hf => ?_)
  refine r_istore h [(6, .int (vI x1_)), (5, .int (vI a1)), (0, .ref (ad 86)), (1, .int (vI a1)), (2, .int (vI a2)), (3, .int (vI a3)), (4, .int (vI a4))] dX12_doesLead_6 (by decide) rfl ?_
  refine r_sub h [2, 4, 5, 6, 1, 0] rfl ?_
  exact b_Mo_doesLead_8 h hr hw ht ra2 ra3 ra4 FU a1 x1_ s0 ra1 rx1_ hf
set_option maxRecDepth 20000 in
theorem m_Mo_endsJust {l : Launch} {D : va_G} {cs : Nat → ClassId} {aS aV : Nat} {A : Nat → Prop} {ad : Nat → Nat} {n : Nat} {nl : Nat → Nat → Bool} {out : Int × SS} (hw : w_WH n nl) (ht : 86 < n) {a1 : Int} (ra1 : rI a1) {a2 : Int} (ra2 : rI a2) {a3 : Int} (ra3 : rI a3) {s0 : SS} (hs0 : rS s0) (hf : f_Mo_endsJust a1 a2 a3 s0 = some out) : w_MC l D cs aS aV A yX12_endsJust cX12_endsJust 4 2 rm_Mo_endsJust ad n nl [.ref (ad 86), .int (vI a1), .int (vI a2), .int (vI a3)] s0 (w_Po ad n nl out) := by
  refine w_MC_of (by decide +kernel) (by decide) hs0 (Nat.le_of_ble_eq_true rfl) (fun K h hr => ?_)
  refine r_lv (lv' := [(0, .ref (ad 86)), (1, .int (vI a1)), (2, .int (vI a2)), (3, .int (vI a3))]) rfl ?_
  unfold f_Mo_endsJust at hf
  refine r_rS h (fun hs0 => ?_)
  refine r_aload_n h dX12_endsJust_0 rfl 0 rfl ?_
  refine r_iload_n h dX12_endsJust_1 rfl 1 rfl ?_
  obtain ⟨r1, s1, hq1, hf⟩ := ob_some hf
  refine r_callV0 h [.int (vI a1)] dX12_endsJust_2 (fun hs => m_Mo_beginBy hw ht ra1 hs hq1) ml_X12_521 cv_Mo_beginBy rfl (co := 12) rfl (by decide) ht rC_86 ⟨rfl, rfl⟩ ⟨Nat.le_of_ble_eq_true rfl, Nat.le_of_ble_eq_true rfl⟩ ⟨Nat.le_of_ble_eq_true rfl, Nat.le_of_ble_eq_true rfl⟩ (Nat.le_of_ble_eq_true rfl) rfl (fun hr1 hs1 => ?_)
  refine r_aload_n h dX12_endsJust_5 rfl 0 rfl ?_
  refine r_aload_n h dX12_endsJust_6 rfl 0 rfl ?_
  have hq2 := w_ref hw ht rC_86 (by decide) (k := 71) (by decide) rf_12_71
  refine g_X12_140 h dX12_endsJust_7 ht rC_86 hq2.1 ?_
  refine r_iload_n h dX12_endsJust_10 rfl 2 rfl ?_
  refine r_iload_n h dX12_endsJust_11 rfl 3 rfl ?_
  obtain ⟨r3, s3, hq3, hf⟩ := ob_some hf
  refine r_callV0 h [.ref (ad 127), .int (vI a2), .int (vI a3)] dX12_endsJust_12 (fun hs => m_Mo_along hw ht hq2.2 rC_127 ra2 ra3 hs hq3) ml_X12_493 cv_Mo_along rfl (co := 12) rfl (by decide) ht rC_86 ⟨rfl, rfl⟩ ⟨Nat.le_of_ble_eq_true rfl, Nat.le_of_ble_eq_true rfl⟩ ⟨Nat.le_of_ble_eq_true rfl, Nat.le_of_ble_eq_true rfl⟩ (Nat.le_of_ble_eq_true rfl) rfl (fun hr3 hs3 => ?_)
  refine r_aload_n h dX12_endsJust_15 rfl 0 rfl ?_
  refine g_X12_487 h dX12_endsJust_16 ht rC_86 ?_
  refine r_iload_n h dX12_endsJust_19 rfl 2 rfl ?_
  refine r_iconst h dX12_endsJust_20 ?_
  refine r_isub h dX12_endsJust_21 ?_
  refine r_icmp_ne (tgt := 48) h dX12_endsJust_22 (by decide) (hs3.1 _ _) (rI_iw _) (fun hc4 => ?_) (fun hc4 => ?_)
  · have hf := ite_f hc4 hf
    refine r_iconst h dX12_endsJust_48 ?_
    exact r_ret2 hr dX12_endsJust_49 (Or.inl rfl) hf
  · have hf := ite_nf hc4 hf
    refine r_aload_n h dX12_endsJust_25 rfl 0 rfl ?_
    refine g_X12_490 h dX12_endsJust_26 ht rC_86 ?_
    refine r_aload_n h dX12_endsJust_29 rfl 0 rfl ?_
    refine r_aload_n h dX12_endsJust_30 rfl 0 rfl ?_
    have hq5 := w_ref hw ht rC_86 (by decide) (k := 71) (by decide) rf_12_71
    refine g_X12_140 h dX12_endsJust_31 ht rC_86 hq5.1 ?_
    refine r_iload_n h dX12_endsJust_34 rfl 2 rfl ?_
    refine r_iconst h dX12_endsJust_35 ?_
    refine r_isub h dX12_endsJust_36 ?_
    obtain ⟨hi6, hf⟩ := oc_some hf
    refine r_iald h dX12_endsJust_37 hq5.2 rC_127 (rI_iw _) (N := 4) (by rw [rN_127]; rfl) (j := (iw (a2 - 1)).toNat) rfl hi6 ?_
    obtain ⟨r7, s7, hq7, hf⟩ := ob_some hf
    refine r_callV1 h [.int (vI (gi s3 127 ((iw (a2 - 1)).toNat)))] dX12_endsJust_38 (fun hs => m_Mo_milesOf hw ht (hs3.1 _ _) hs hq7) ml_X12_451 cv_Mo_milesOf rfl (co := 12) rfl (by decide) ht rC_86 ⟨rfl, rfl⟩ ⟨Nat.le_of_ble_eq_true rfl, Nat.le_of_ble_eq_true rfl⟩ ⟨Nat.le_of_ble_eq_true rfl, Nat.le_of_ble_eq_true rfl⟩ (Nat.le_of_ble_eq_true rfl) rfl (fun hr7 hs7 => ?_)
    refine r_icmp_ne (tgt := 48) h dX12_endsJust_41 (by decide) (hs3.1 _ _) hr7 (fun hc8 => ?_) (fun hc8 => ?_)
    · have hf := ite_f hc8 hf
      refine r_iconst h dX12_endsJust_48 ?_
      exact r_ret2 hr dX12_endsJust_49 (Or.inl rfl) hf
    · have hf := ite_nf hc8 hf
      refine r_iconst h dX12_endsJust_44 ?_
      refine r_goto (tgt := 49) h dX12_endsJust_45 (by decide) ?_
      exact r_ret2 hr dX12_endsJust_49 (Or.inr rfl) hf
set_option maxRecDepth 20000 in
theorem b_Mo_home_144 {l : Launch} {D : va_G} {cs : Nat → ClassId} {aS aV : Nat} {A : Nat → Prop} {K : KT} {ad : Nat → Nat} {n : Nat} {nl : Nat → Nat → Bool} {out : Int × SS} (h : w_Cl l rm_Mo_home D cs aS aV A cX12_home 13 RX12 "home" K) (hr : w_Rt 1 cX12_home 0 0 (w_Po ad n nl out) K) (hw : w_WH n nl) (ht : 86 < n) {y4 : Int} (ry4 : rI y4) {y5 : Int} (ry5 : rI y5) {y6 : Int} (ry6 : rI y6) {y7 : Int} (ry7 : rI y7) {y8 : Int} (ry8 : rI y8) {y9 : Int} (ry9 : rI y9) {y10 : Int} (ry10 : rI y10) {y11 : Int} (ry11 : rI y11) (self67 : Int → Int → Int → SS → OO) (hself67 : ∀ (x8 : Int) (x9 : Int) (x10 : Int) (τ : SS), rI x8 → rI x9 → rI x10 → self67 x8 x9 x10 τ = some out → K ad n nl 0 0 67 [(0, .ref (ad 86)), (4, .int (vI y4)), (5, .int (vI y5)), (6, .int (vI y6)), (7, .int (vI y7)), (8, .int (vI x8)), (9, .int (vI x9)), (10, .int (vI x10))] [] τ) (self91 : Int → Int → SS → OO) (hself91 : ∀ (x8 : Int) (x11 : Int) (τ : SS), rI x8 → rI x11 → self91 x8 x11 τ = some out → K ad n nl 0 0 91 [(0, .ref (ad 86)), (4, .int (vI y4)), (5, .int (vI y5)), (6, .int (vI y6)), (7, .int (vI y7)), (8, .int (vI x8)), (9, .int (vI y9)), (10, .int (vI y10)), (11, .int (vI x11))] [] τ) : ∀ (fu : Nat) (x12 : Int) (s0 : SS), rI x12 → l_Mo_home_144 self67 self91 y4 y5 y6 y7 y8 y9 y10 y11 fu x12 s0 = some out → K ad n nl 0 0 144 [(0, .ref (ad 86)), (4, .int (vI y4)), (5, .int (vI y5)), (6, .int (vI y6)), (7, .int (vI y7)), (8, .int (vI y8)), (9, .int (vI y9)), (10, .int (vI y10)), (11, .int (vI y11)), (12, .int (vI x12))] [] s0 := by
  intro fu
  induction fu with
  | zero =>
    intro x12 s0 rx12 hf
    rw [l_Mo_home_144] at hf
    cases hf
  | succ fu ih =>
    intro x12 s0 rx12 hf
    rw [l_Mo_home_144] at hf
    refine r_rS h (fun hs0 => ?_)
    refine r_iload h dX12_home_144 9 rfl ?_
    refine r_iload h dX12_home_146 7 rfl ?_
    refine r_icmp_ge (tgt := 171) h dX12_home_148 (by decide) rx12 ry10 (fun hc1 => ?_) (fun hc1 => ?_)
    · have hf := ite_t hc1 hf
      refine r_aload_n h dX12_home_171 rfl 0 rfl ?_
      refine r_iload h dX12_home_172 7 rfl ?_
      refine p_X12_466 h dX12_home_174 ht rC_86 ry10 ?_
      refine r_os hf (fun s2 hf => ?_)
      refine r_rS h (fun hs2 => ?_)
      refine r_iinc h [(11, .int (vI (iw (y11 + 1)))), (0, .ref (ad 86)), (4, .int (vI y4)), (5, .int (vI y5)), (6, .int (vI y6)), (7, .int (vI y7)), (8, .int (vI y8)), (9, .int (vI y9)), (10, .int (vI y10)), (12, .int (vI x12))] dX12_home_177 8 rfl (by decide) rfl ?_
      refine r_goto (tgt := 91) h dX12_home_180 (by decide) ?_
      refine r_sub h [1, 2, 3, 4, 5, 6, 7, 8, 0] rfl ?_
      exact hself91 y8 (iw (y11 + 1)) s2 ry8 (rI_iw _) hf
    · have hf := ite_f hc1 hf
      refine r_aload_n h dX12_home_151 rfl 0 rfl ?_
      have hq3 := w_ref hw ht rC_86 (by decide) (k := 59) (by decide) rf_12_59
      refine g_X12_122 h dX12_home_152 ht rC_86 hq3.1 ?_
      refine r_iload h dX12_home_155 9 rfl ?_
      refine r_aload_n h dX12_home_157 rfl 0 rfl ?_
      have hq4 := w_ref hw ht rC_86 (by decide) (k := 71) (by decide) rf_12_71
      refine g_X12_140 h dX12_home_158 ht rC_86 hq4.1 ?_
      refine r_iload h dX12_home_161 9 rfl ?_
      obtain ⟨hi5, hf⟩ := oc_some hf
      refine r_iald h dX12_home_163 hq4.2 rC_127 rx12 (N := 4) (by rw [rN_127]; rfl) (j := (x12).toNat) rfl hi5 ?_
      obtain ⟨hi6, hf⟩ := oc_some hf
      refine r_iast h dX12_home_164 hq3.2 rC_122 rx12 (N := 12) (by rw [rN_122]; rfl) (j := (x12).toNat) rfl hi6 (hs0.1 _ _) ?_
      refine r_os hf (fun s7 hf => ?_)
      refine r_rS h (fun hs7 => ?_)
      refine r_iinc h [(12, .int (vI (iw (x12 + 1)))), (0, .ref (ad 86)), (4, .int (vI y4)), (5, .int (vI y5)), (6, .int (vI y6)), (7, .int (vI y7)), (8, .int (vI y8)), (9, .int (vI y9)), (10, .int (vI y10)), (11, .int (vI y11))] dX12_home_165 9 rfl (by decide) rfl ?_
      refine r_goto (tgt := 144) h dX12_home_168 (by decide) ?_
      refine r_sub h [1, 2, 3, 4, 5, 6, 7, 8, 9, 0] rfl ?_
      exact ih (iw (x12 + 1)) s7 (rI_iw _) hf
set_option maxRecDepth 20000 in
theorem b_Mo_home_91 {l : Launch} {D : va_G} {cs : Nat → ClassId} {aS aV : Nat} {A : Nat → Prop} {K : KT} {ad : Nat → Nat} {n : Nat} {nl : Nat → Nat → Bool} {out : Int × SS} (h : w_Cl l rm_Mo_home D cs aS aV A cX12_home 13 RX12 "home" K) (hr : w_Rt 1 cX12_home 0 0 (w_Po ad n nl out) K) (hw : w_WH n nl) (ht : 86 < n) {y4 : Int} (ry4 : rI y4) {y5 : Int} (ry5 : rI y5) {y6 : Int} (ry6 : rI y6) {y7 : Int} (ry7 : rI y7) {y9 : Int} (ry9 : rI y9) {y10 : Int} (ry10 : rI y10) (self67 : Int → Int → Int → SS → OO) (hself67 : ∀ (x8 : Int) (x9 : Int) (x10 : Int) (τ : SS), rI x8 → rI x9 → rI x10 → self67 x8 x9 x10 τ = some out → K ad n nl 0 0 67 [(0, .ref (ad 86)), (4, .int (vI y4)), (5, .int (vI y5)), (6, .int (vI y6)), (7, .int (vI y7)), (8, .int (vI x8)), (9, .int (vI x9)), (10, .int (vI x10))] [] τ) : ∀ (fu : Nat) (x8 : Int) (x11 : Int) (s0 : SS), rI x8 → rI x11 → l_Mo_home_91 self67 y4 y5 y6 y7 y9 y10 fu x8 x11 s0 = some out → K ad n nl 0 0 91 [(0, .ref (ad 86)), (4, .int (vI y4)), (5, .int (vI y5)), (6, .int (vI y6)), (7, .int (vI y7)), (8, .int (vI x8)), (9, .int (vI y9)), (10, .int (vI y10)), (11, .int (vI x11))] [] s0 := by
  intro fu
  induction fu with
  | zero =>
    intro x8 x11 s0 rx8 rx11 hf
    rw [l_Mo_home_91] at hf
    cases hf
  | succ fu ih =>
    intro x8 x11 s0 rx8 rx11 hf
    rw [l_Mo_home_91] at hf
    refine r_rS h (fun hs0 => ?_)
    refine r_iload h dX12_home_91 8 rfl ?_
    refine r_iload h dX12_home_93 6 rfl ?_
    refine r_icmp_ge (tgt := 183) h dX12_home_95 (by decide) rx11 ry9 (fun hc1 => ?_) (fun hc1 => ?_)
    · have hf := ite_t hc1 hf
      refine r_iinc h [(10, .int (vI (iw (y10 + 1)))), (0, .ref (ad 86)), (4, .int (vI y4)), (5, .int (vI y5)), (6, .int (vI y6)), (7, .int (vI y7)), (8, .int (vI x8)), (9, .int (vI y9)), (11, .int (vI x11))] dX12_home_183 7 rfl (by decide) rfl ?_
      refine r_goto (tgt := 67) h dX12_home_186 (by decide) ?_
      refine r_sub h [1, 2, 3, 4, 5, 6, 7, 0] rfl ?_
      exact hself67 x8 y9 (iw (y10 + 1)) s0 rx8 ry9 (rI_iw _) hf
    · have hf := ite_f hc1 hf
      refine r_aload_n h dX12_home_98 rfl 0 rfl ?_
      refine r_iload h dX12_home_99 8 rfl ?_
      refine r_iload h dX12_home_101 7 rfl ?_
      refine r_iload h dX12_home_103 1 rfl ?_
      refine r_iload h dX12_home_105 2 rfl ?_
      obtain ⟨r2, s2, hq2, hf⟩ := ob_some hf
      refine r_callV2 h [.int (vI x11), .int (vI y10), .int (vI y4), .int (vI y5)] dX12_home_107 (fun hs => m_Mo_doesLead hw ht rx11 ry10 ry4 ry5 hs hq2) ml_X12_547 cv_Mo_doesLead rfl (co := 12) rfl (by decide) ht rC_86 ⟨rfl, rfl⟩ ⟨Nat.le_of_ble_eq_true rfl, Nat.le_of_ble_eq_true rfl⟩ ⟨Nat.le_of_ble_eq_true rfl, Nat.le_of_ble_eq_true rfl⟩ (Nat.le_of_ble_eq_true rfl) rfl (fun hr2 hs2 => ?_)
      refine r_if_eq (tgt := 177) h dX12_home_110 (by decide) (rI_b hr2) (fun hc3 => ?_) (fun hc3 => ?_)
      · have hf := ite_t hc3 hf
        refine r_iinc h [(11, .int (vI (iw (x11 + 1)))), (0, .ref (ad 86)), (4, .int (vI y4)), (5, .int (vI y5)), (6, .int (vI y6)), (7, .int (vI y7)), (8, .int (vI x8)), (9, .int (vI y9)), (10, .int (vI y10))] dX12_home_177 8 rfl (by decide) rfl ?_
        refine r_goto (tgt := 91) h dX12_home_180 (by decide) ?_
        refine r_sub h [1, 2, 3, 4, 5, 6, 7, 8, 0] rfl ?_
        exact ih x8 (iw (x11 + 1)) s2 rx8 (rI_iw _) hf
      · have hf := ite_f hc3 hf
        refine r_aload_n h dX12_home_113 rfl 0 rfl ?_
        refine r_iload h dX12_home_114 4 rfl ?_
        refine r_iload h dX12_home_116 7 rfl ?_
        refine r_iload h dX12_home_118 1 rfl ?_
        obtain ⟨r4, s4, hq4, hf⟩ := ob_some hf
        refine r_callV2 h [.int (vI y7), .int (vI y10), .int (vI y4)] dX12_home_120 (fun hs => m_Mo_endsJust hw ht ry7 ry10 ry4 hs hq4) ml_X12_551 cv_Mo_endsJust rfl (co := 12) rfl (by decide) ht rC_86 ⟨rfl, rfl⟩ ⟨Nat.le_of_ble_eq_true rfl, Nat.le_of_ble_eq_true rfl⟩ ⟨Nat.le_of_ble_eq_true rfl, Nat.le_of_ble_eq_true rfl⟩ (Nat.le_of_ble_eq_true rfl) rfl (fun hr4 hs4 => ?_)
        refine r_if_ne (tgt := 129) h dX12_home_123 (by decide) (rI_b hr4) (fun hc5 => ?_) (fun hc5 => ?_)
        · have hf := ite_f hc5 hf
          refine r_iinc h [(8, .int (vI (iw (x8 + 1)))), (0, .ref (ad 86)), (4, .int (vI y4)), (5, .int (vI y5)), (6, .int (vI y6)), (7, .int (vI y7)), (9, .int (vI y9)), (10, .int (vI y10)), (11, .int (vI x11))] dX12_home_129 5 rfl (by decide) rfl ?_
          refine r_iload h dX12_home_132 0 rfl ?_
          refine r_iconst h dX12_home_134 ?_
          refine r_icmp_le (tgt := 141) h dX12_home_135 (by decide) (rI_iw _) (rIc rfl) (fun hc6 => ?_) (fun hc6 => ?_)
          · have hf := ite_t hc6 hf
            refine r_iconst h dX12_home_141 ?_
            refine r_istore h [(12, .int (vI 0)), (8, .int (vI (iw (x8 + 1)))), (0, .ref (ad 86)), (4, .int (vI y4)), (5, .int (vI y5)), (6, .int (vI y6)), (7, .int (vI y7)), (9, .int (vI y9)), (10, .int (vI y10)), (11, .int (vI x11))] dX12_home_142 (by decide) rfl ?_
            refine r_sub h [2, 3, 4, 5, 6, 1, 7, 8, 9, 0] rfl ?_
            exact b_Mo_home_144 h hr hw ht ry4 ry5 ry6 ry7 (rI_iw _) ry9 ry10 rx11 self67 hself67 (l_Mo_home_91 self67 y4 y5 y6 y7 y9 y10 fu) ih FU 0 s4 (rIc rfl) hf
          · have hf := ite_f hc6 hf
            refine r_goto (tgt := 177) h dX12_home_138 (by decide) ?_
            refine r_iinc h [(11, .int (vI (iw (x11 + 1)))), (8, .int (vI (iw (x8 + 1)))), (0, .ref (ad 86)), (4, .int (vI y4)), (5, .int (vI y5)), (6, .int (vI y6)), (7, .int (vI y7)), (9, .int (vI y9)), (10, .int (vI y10))] dX12_home_177 8 rfl (by decide) rfl ?_
            refine r_goto (tgt := 91) h dX12_home_180 (by decide) ?_
            refine r_sub h [2, 3, 4, 5, 6, 1, 7, 8, 0] rfl ?_
            exact ih (iw (x8 + 1)) (iw (x11 + 1)) s4 (rI_iw _) (rI_iw _) hf
        · have hf := ite_nf hc5 hf
          refine r_goto (tgt := 177) h dX12_home_126 (by decide) ?_
          refine r_iinc h [(11, .int (vI (iw (x11 + 1)))), (0, .ref (ad 86)), (4, .int (vI y4)), (5, .int (vI y5)), (6, .int (vI y6)), (7, .int (vI y7)), (8, .int (vI x8)), (9, .int (vI y9)), (10, .int (vI y10))] dX12_home_177 8 rfl (by decide) rfl ?_
          refine r_goto (tgt := 91) h dX12_home_180 (by decide) ?_
          refine r_sub h [1, 2, 3, 4, 5, 6, 7, 8, 0] rfl ?_
          exact ih x8 (iw (x11 + 1)) s4 rx8 (rI_iw _) hf
set_option maxRecDepth 20000 in
theorem b_Mo_home_67 {l : Launch} {D : va_G} {cs : Nat → ClassId} {aS aV : Nat} {A : Nat → Prop} {K : KT} {ad : Nat → Nat} {n : Nat} {nl : Nat → Nat → Bool} {out : Int × SS} (h : w_Cl l rm_Mo_home D cs aS aV A cX12_home 13 RX12 "home" K) (hr : w_Rt 1 cX12_home 0 0 (w_Po ad n nl out) K) (hw : w_WH n nl) (ht : 86 < n) {y4 : Int} (ry4 : rI y4) {y5 : Int} (ry5 : rI y5) {y6 : Int} (ry6 : rI y6) {y7 : Int} (ry7 : rI y7) : ∀ (fu : Nat) (x8 : Int) (x9 : Int) (x10 : Int) (s0 : SS), rI x8 → rI x9 → rI x10 → l_Mo_home_67 y4 y5 y6 y7 fu x8 x9 x10 s0 = some out → K ad n nl 0 0 67 [(0, .ref (ad 86)), (4, .int (vI y4)), (5, .int (vI y5)), (6, .int (vI y6)), (7, .int (vI y7)), (8, .int (vI x8)), (9, .int (vI x9)), (10, .int (vI x10))] [] s0 := by
  intro fu
  induction fu with
  | zero =>
    intro x8 x9 x10 s0 rx8 rx9 rx10 hf
    rw [l_Mo_home_67] at hf
    cases hf
  | succ fu ih =>
    intro x8 x9 x10 s0 rx8 rx9 rx10 hf
    rw [l_Mo_home_67] at hf
    refine r_rS h (fun hs0 => ?_)
    refine r_iload h dX12_home_67 7 rfl ?_
    refine r_iload h dX12_home_69 3 rfl ?_
    refine r_icmp_gt (tgt := 189) h dX12_home_71 (by decide) rx10 ry6 (fun hc1 => ?_) (fun hc1 => ?_)
    · have hf := ite_t hc1 hf
      refine r_iload h dX12_home_189 5 rfl ?_
      exact r_ret1 hr dX12_home_191 rx8 hf
    · have hf := ite_f hc1 hf
      refine r_iload h dX12_home_74 6 rfl ?_
      refine r_aload_n h dX12_home_76 rfl 0 rfl ?_
      have hq2 := w_ref hw ht rC_86 (by decide) (k := 12) (by decide) rf_12_12
      refine g_X12_24 h dX12_home_77 ht rC_86 hq2.1 ?_
      refine r_aload_n h dX12_home_80 rfl 0 rfl ?_
      refine g_X12_295 h dX12_home_81 ht rC_86 ?_
      obtain ⟨hi3, hf⟩ := oc_some hf
      refine r_iald h dX12_home_84 hq2.2 rC_90 (hs0.1 _ _) (N := 2) (by rw [rN_90]; rfl) (j := (gi s0 86 40).toNat) rfl hi3 ?_
      refine r_imul h dX12_home_85 ?_
      refine r_ol hf (rI_iw _) (fun x4_ rx4_ hf => ?_)
      refine r_istore h [(9, .int (vI x4_)), (0, .ref (ad 86)), (4, .int (vI y4)), (5, .int (vI y5)), (6, .int (vI y6)), (7, .int (vI y7)), (8, .int (vI x8)), (10, .int (vI x10))] dX12_home_86 (by decide) rfl ?_
      refine r_iconst h dX12_home_88 ?_
      refine r_istore h [(11, .int (vI 0)), (9, .int (vI x4_)), (0, .ref (ad 86)), (4, .int (vI y4)), (5, .int (vI y5)), (6, .int (vI y6)), (7, .int (vI y7)), (8, .int (vI x8)), (10, .int (vI x10))] dX12_home_89 (by decide) rfl ?_
      refine r_sub h [2, 3, 4, 5, 6, 7, 1, 8, 0] rfl ?_
      exact b_Mo_home_91 h hr hw ht ry4 ry5 ry6 ry7 rx4_ rx10 (l_Mo_home_67 y4 y5 y6 y7 fu) ih FU x8 0 s0 rx8 (rIc rfl) hf
set_option maxRecDepth 20000 in
theorem m_Mo_home {l : Launch} {D : va_G} {cs : Nat → ClassId} {aS aV : Nat} {A : Nat → Prop} {ad : Nat → Nat} {n : Nat} {nl : Nat → Nat → Bool} {out : Int × SS} (hw : w_WH n nl) (ht : 86 < n) {a1 : Int} (ra1 : rI a1) {a2 : Int} (ra2 : rI a2) {a3 : Int} (ra3 : rI a3) {a4 : Int} (ra4 : rI a4) {a5 : Int} (ra5 : rI a5) {a6 : Int} (ra6 : rI a6) {s0 : SS} (hs0 : rS s0) (hf : f_Mo_home a1 a2 a3 a4 a5 a6 s0 = some out) : w_MC l D cs aS aV A yX12_home cX12_home 13 1 rm_Mo_home ad n nl [.ref (ad 86), .int (vI a1), .int (vI a2), .int (vI a3), .int (vI a4), .int (vI a5), .int (vI a6)] s0 (w_Po ad n nl out) := by
  refine w_MC_of (by decide +kernel) (by decide) hs0 (Nat.le_of_ble_eq_true rfl) (fun K h hr => ?_)
  refine r_lv (lv' := [(0, .ref (ad 86)), (1, .int (vI a1)), (2, .int (vI a2)), (3, .int (vI a3)), (4, .int (vI a4)), (5, .int (vI a5)), (6, .int (vI a6))]) rfl ?_
  unfold f_Mo_home at hf
  refine r_rS h (fun hs0 => ?_)
  refine r_aload_n h dX12_home_0 rfl 0 rfl ?_
  refine r_iconst h dX12_home_1 ?_
  refine p_X12_466 h dX12_home_2 ht rC_86 (rIc rfl) ?_
  refine r_os hf (fun s1 hf => ?_)
  refine r_rS h (fun hs1 => ?_)
  refine r_aload_n h dX12_home_5 rfl 0 rfl ?_
  refine r_iload_n h dX12_home_6 rfl 1 rfl ?_
  refine r_iload_n h dX12_home_7 rfl 2 rfl ?_
  refine r_iload_n h dX12_home_8 rfl 3 rfl ?_
  obtain ⟨r2, s2, hq2, hf⟩ := ob_some hf
  refine r_callV2 h [.int (vI a1), .int (vI a2), .int (vI a3)] dX12_home_9 (fun hs => m_Mo_isCouple hw ht ra1 ra2 ra3 hs hq2) ml_X12_436 cv_Mo_isCouple rfl (co := 12) rfl (by decide) ht rC_86 ⟨rfl, rfl⟩ ⟨Nat.le_of_ble_eq_true rfl, Nat.le_of_ble_eq_true rfl⟩ ⟨Nat.le_of_ble_eq_true rfl, Nat.le_of_ble_eq_true rfl⟩ (Nat.le_of_ble_eq_true rfl) rfl (fun hr2 hs2 => ?_)
  refine r_if_eq (tgt := 43) h dX12_home_12 (by decide) (rI_b hr2) (fun hc3 => ?_) (fun hc3 => ?_)
  · have hf := ite_t hc3 hf
    refine r_iconst h dX12_home_43 ?_
    exact r_ret1 hr dX12_home_44 (rIc rfl) hf
  · have hf := ite_f hc3 hf
    refine r_aload_n h dX12_home_15 rfl 0 rfl ?_
    refine r_iload h dX12_home_16 4 rfl ?_
    obtain ⟨r4, s4, hq4, hf⟩ := ob_some hf
    refine r_callV2 h [.int (vI a4)] dX12_home_18 (fun hs => m_Mo_isPlace hw ht ra4 hs hq4) ml_X12_469 cv_Mo_isPlace rfl (co := 12) rfl (by decide) ht rC_86 ⟨rfl, rfl⟩ ⟨Nat.le_of_ble_eq_true rfl, Nat.le_of_ble_eq_true rfl⟩ ⟨Nat.le_of_ble_eq_true rfl, Nat.le_of_ble_eq_true rfl⟩ (Nat.le_of_ble_eq_true rfl) rfl (fun hr4 hs4 => ?_)
    refine r_if_eq (tgt := 43) h dX12_home_21 (by decide) (rI_b hr4) (fun hc5 => ?_) (fun hc5 => ?_)
    · have hf := ite_t hc5 hf
      refine r_iconst h dX12_home_43 ?_
      exact r_ret1 hr dX12_home_44 (rIc rfl) hf
    · have hf := ite_f hc5 hf
      refine r_aload_n h dX12_home_24 rfl 0 rfl ?_
      refine r_iload h dX12_home_25 5 rfl ?_
      obtain ⟨r6, s6, hq6, hf⟩ := ob_some hf
      refine r_callV2 h [.int (vI a5)] dX12_home_27 (fun hs => m_Mo_isPlace hw ht ra5 hs hq6) ml_X12_469 cv_Mo_isPlace rfl (co := 12) rfl (by decide) ht rC_86 ⟨rfl, rfl⟩ ⟨Nat.le_of_ble_eq_true rfl, Nat.le_of_ble_eq_true rfl⟩ ⟨Nat.le_of_ble_eq_true rfl, Nat.le_of_ble_eq_true rfl⟩ (Nat.le_of_ble_eq_true rfl) rfl (fun hr6 hs6 => ?_)
      refine r_if_eq (tgt := 43) h dX12_home_30 (by decide) (rI_b hr6) (fun hc7 => ?_) (fun hc7 => ?_)
      · have hf := ite_t hc7 hf
        refine r_iconst h dX12_home_43 ?_
        exact r_ret1 hr dX12_home_44 (rIc rfl) hf
      · have hf := ite_f hc7 hf
        refine r_iload h dX12_home_33 6 rfl ?_
        refine r_iconst h dX12_home_35 ?_
        refine r_iconst h dX12_home_36 ?_
        obtain ⟨r8, s8, hq8, hf⟩ := ob_some hf
        refine r_callS2 h [.int (vI a6), .int (vI 1), .int (vI 4)] dX12_home_37 (fun hs => m_Mo_isIn hw ra6 (rIc rfl) (rIc rfl) hs hq8) ml_X12_400 cv_Mo_isIn rfl ⟨rfl, rfl⟩ ⟨Nat.le_of_ble_eq_true rfl, Nat.le_of_ble_eq_true rfl⟩ ⟨Nat.le_of_ble_eq_true rfl, Nat.le_of_ble_eq_true rfl⟩ (Nat.le_of_ble_eq_true rfl) rfl (fun hr8 hs8 => ?_)
        refine r_if_ne (tgt := 45) h dX12_home_40 (by decide) (rI_b hr8) (fun hc9 => ?_) (fun hc9 => ?_)
        · have hf := ite_f hc9 hf
          refine r_bipush h dX12_home_45 (by decide) ?_
          refine r_iload_n h dX12_home_47 rfl 1 rfl ?_
          refine r_imul h dX12_home_48 ?_
          refine r_iload_n h dX12_home_49 rfl 2 rfl ?_
          refine r_iadd h dX12_home_50 ?_
          refine r_bipush h dX12_home_51 (by decide) ?_
          refine r_imul h dX12_home_53 ?_
          refine r_iload_n h dX12_home_54 rfl 3 rfl ?_
          refine r_iadd h dX12_home_55 ?_
          refine r_ol hf (rI_iw _) (fun x10_ rx10_ hf => ?_)
          refine r_istore h [(7, .int (vI x10_)), (0, .ref (ad 86)), (1, .int (vI a1)), (2, .int (vI a2)), (3, .int (vI a3)), (4, .int (vI a4)), (5, .int (vI a5)), (6, .int (vI a6))] dX12_home_56 (by decide) rfl ?_
          refine r_iconst h dX12_home_58 ?_
          refine r_istore h [(8, .int (vI 0)), (7, .int (vI x10_)), (0, .ref (ad 86)), (1, .int (vI a1)), (2, .int (vI a2)), (3, .int (vI a3)), (4, .int (vI a4)), (5, .int (vI a5)), (6, .int (vI a6))] dX12_home_59 (by decide) rfl ?_
          refine r_iconst h dX12_home_61 ?_
          refine r_istore h [(9, .int (vI 1)), (8, .int (vI 0)), (7, .int (vI x10_)), (0, .ref (ad 86)), (1, .int (vI a1)), (2, .int (vI a2)), (3, .int (vI a3)), (4, .int (vI a4)), (5, .int (vI a5)), (6, .int (vI a6))] dX12_home_62 (by decide) rfl ?_
          refine r_iconst h dX12_home_64 ?_
          refine r_istore h [(10, .int (vI 1)), (9, .int (vI 1)), (8, .int (vI 0)), (7, .int (vI x10_)), (0, .ref (ad 86)), (1, .int (vI a1)), (2, .int (vI a2)), (3, .int (vI a3)), (4, .int (vI a4)), (5, .int (vI a5)), (6, .int (vI a6))] dX12_home_65 (by decide) rfl ?_
          refine r_sub h [4, 8, 9, 10, 3, 2, 1, 0] rfl ?_
          exact b_Mo_home_67 h hr hw ht ra4 ra5 ra6 rx10_ FU 0 1 1 s8 (rIc rfl) (rIc rfl) (rIc rfl) hf
        · have hf := ite_nf hc9 hf
          refine r_iconst h dX12_home_43 ?_
          exact r_ret1 hr dX12_home_44 (rIc rfl) hf
set_option maxRecDepth 20000 in
theorem m_Mo_layTempers {l : Launch} {D : va_G} {cs : Nat → ClassId} {aS aV : Nat} {A : Nat → Prop} {ad : Nat → Nat} {n : Nat} {nl : Nat → Nat → Bool} {out : Int × SS} (hw : w_WH n nl) (ht : 86 < n) {a1 : Int} (ra1 : rI a1) {a2 : Int} (ra2 : rI a2) {u3 : Nat} (pu3 : u3 < n) (pc3 : rC u3 = 14) {s0 : SS} (hs0 : rS s0) (hf : f_Mo_layTempers a1 a2 u3 s0 = some out) : w_MC l D cs aS aV A yX12_layTempers cX12_layTempers 4 0 rm_Mo_layTempers ad n nl [.ref (ad 86), .int (vI a1), .int (vI a2), .ref (ad u3)] s0 (w_Po ad n nl out) := by
  refine w_MC_of (by decide +kernel) (by decide) hs0 (Nat.le_of_ble_eq_true rfl) (fun K h hr => ?_)
  refine r_lv (lv' := [(0, .ref (ad 86)), (1, .int (vI a1)), (2, .int (vI a2)), (3, .ref (ad u3))]) rfl ?_
  unfold f_Mo_layTempers at hf
  refine r_rS h (fun hs0 => ?_)
  refine r_aload_n h dX12_layTempers_0 rfl 0 rfl ?_
  have hq1 := w_ref hw ht rC_86 (by decide) (k := 52) (by decide) rf_12_52
  refine g_X12_110 h dX12_layTempers_1 ht rC_86 hq1.1 ?_
  refine r_iconst h dX12_layTempers_4 ?_
  refine r_iconst h dX12_layTempers_5 ?_
  refine r_iload_n h dX12_layTempers_6 rfl 1 rfl ?_
  refine r_imul h dX12_layTempers_7 ?_
  refine r_iadd h dX12_layTempers_8 ?_
  refine r_aload_n h dX12_layTempers_9 rfl 3 rfl ?_
  refine r_iconst h dX12_layTempers_10 ?_
  obtain ⟨hi2, hf⟩ := oc_some hf
  refine r_iald h dX12_layTempers_11 pu3 pc3 (rIc rfl) rfl (j := 0) rfl hi2 ?_
  obtain ⟨hi3, hf⟩ := oc_some hf
  refine r_iast h dX12_layTempers_12 hq1.2 rC_118 (rI_iw _) (N := 44) (by rw [rN_118]; rfl) (j := (iw (1 + (iw (2 * a1)))).toNat) rfl hi3 (hs0.1 _ _) ?_
  refine r_os hf (fun s4 hf => ?_)
  refine r_rS h (fun hs4 => ?_)
  refine r_aload_n h dX12_layTempers_13 rfl 0 rfl ?_
  have hq5 := w_ref hw ht rC_86 (by decide) (k := 52) (by decide) rf_12_52
  refine g_X12_110 h dX12_layTempers_14 ht rC_86 hq5.1 ?_
  refine r_iconst h dX12_layTempers_17 ?_
  refine r_iconst h dX12_layTempers_18 ?_
  refine r_iload_n h dX12_layTempers_19 rfl 1 rfl ?_
  refine r_imul h dX12_layTempers_20 ?_
  refine r_iadd h dX12_layTempers_21 ?_
  refine r_iconst h dX12_layTempers_22 ?_
  refine r_iadd h dX12_layTempers_23 ?_
  refine r_aload_n h dX12_layTempers_24 rfl 3 rfl ?_
  refine r_iconst h dX12_layTempers_25 ?_
  obtain ⟨hi6, hf⟩ := oc_some hf
  refine r_iald h dX12_layTempers_26 pu3 pc3 (rIc rfl) rfl (j := 1) rfl hi6 ?_
  obtain ⟨hi7, hf⟩ := oc_some hf
  refine r_iast h dX12_layTempers_27 hq5.2 rC_118 (rI_iw _) (N := 44) (by rw [rN_118]; rfl) (j := (iw ((iw (1 + (iw (2 * a1)))) + 1)).toNat) rfl hi7 (hs4.1 _ _) ?_
  refine r_os hf (fun s8 hf => ?_)
  refine r_rS h (fun hs8 => ?_)
  refine r_aload_n h dX12_layTempers_28 rfl 0 rfl ?_
  have hq9 := w_ref hw ht rC_86 (by decide) (k := 52) (by decide) rf_12_52
  refine g_X12_110 h dX12_layTempers_29 ht rC_86 hq9.1 ?_
  refine r_iconst h dX12_layTempers_32 ?_
  refine r_iconst h dX12_layTempers_33 ?_
  refine r_iload_n h dX12_layTempers_34 rfl 2 rfl ?_
  refine r_imul h dX12_layTempers_35 ?_
  refine r_iadd h dX12_layTempers_36 ?_
  refine r_aload_n h dX12_layTempers_37 rfl 3 rfl ?_
  refine r_iconst h dX12_layTempers_38 ?_
  obtain ⟨hi10, hf⟩ := oc_some hf
  refine r_iald h dX12_layTempers_39 pu3 pc3 (rIc rfl) rfl (j := 2) rfl hi10 ?_
  obtain ⟨hi11, hf⟩ := oc_some hf
  refine r_iast h dX12_layTempers_40 hq9.2 rC_118 (rI_iw _) (N := 44) (by rw [rN_118]; rfl) (j := (iw (1 + (iw (2 * a2)))).toNat) rfl hi11 (hs8.1 _ _) ?_
  refine r_os hf (fun s12 hf => ?_)
  refine r_rS h (fun hs12 => ?_)
  refine r_aload_n h dX12_layTempers_41 rfl 0 rfl ?_
  have hq13 := w_ref hw ht rC_86 (by decide) (k := 52) (by decide) rf_12_52
  refine g_X12_110 h dX12_layTempers_42 ht rC_86 hq13.1 ?_
  refine r_iconst h dX12_layTempers_45 ?_
  refine r_iconst h dX12_layTempers_46 ?_
  refine r_iload_n h dX12_layTempers_47 rfl 2 rfl ?_
  refine r_imul h dX12_layTempers_48 ?_
  refine r_iadd h dX12_layTempers_49 ?_
  refine r_iconst h dX12_layTempers_50 ?_
  refine r_iadd h dX12_layTempers_51 ?_
  refine r_aload_n h dX12_layTempers_52 rfl 3 rfl ?_
  refine r_iconst h dX12_layTempers_53 ?_
  obtain ⟨hi14, hf⟩ := oc_some hf
  refine r_iald h dX12_layTempers_54 pu3 pc3 (rIc rfl) rfl (j := 3) rfl hi14 ?_
  obtain ⟨hi15, hf⟩ := oc_some hf
  refine r_iast h dX12_layTempers_55 hq13.2 rC_118 (rI_iw _) (N := 44) (by rw [rN_118]; rfl) (j := (iw ((iw (1 + (iw (2 * a2)))) + 1)).toNat) rfl hi15 (hs12.1 _ _) ?_
  refine r_os hf (fun s16 hf => ?_)
  refine r_rS h (fun hs16 => ?_)
  exact r_ret0 (x := 0) hr dX12_layTempers_56 hf
set_option maxRecDepth 20000 in
theorem m_Mo_apart {l : Launch} {D : va_G} {cs : Nat → ClassId} {aS aV : Nat} {A : Nat → Prop} {ad : Nat → Nat} {n : Nat} {nl : Nat → Nat → Bool} {out : Int × SS} (hw : w_WH n nl) {a1 : Int} (ra1 : rI a1) {a2 : Int} (ra2 : rI a2) {s0 : SS} (hs0 : rS s0) (hf : f_Mo_apart a1 a2 s0 = some out) : w_MC l D cs aS aV A yX12_apart cX12_apart 2 1 rm_Mo_apart ad n nl [.int (vI a1), .int (vI a2)] s0 (w_Po ad n nl out) := by
  refine w_MC_of (by decide +kernel) (by decide) hs0 (Nat.le_of_ble_eq_true rfl) (fun K h hr => ?_)
  refine r_lv (lv' := [(0, .int (vI a1)), (1, .int (vI a2))]) rfl ?_
  unfold f_Mo_apart at hf
  refine r_rS h (fun hs0 => ?_)
  refine r_iload_n h dX12_apart_0 rfl 0 rfl ?_
  refine r_iload_n h dX12_apart_1 rfl 1 rfl ?_
  refine r_icmp_ge (tgt := 11) h dX12_apart_2 (by decide) ra1 ra2 (fun hc1 => ?_) (fun hc1 => ?_)
  · have hf := ite_t hc1 hf
    refine r_iload_n h dX12_apart_11 rfl 0 rfl ?_
    refine r_iload_n h dX12_apart_12 rfl 1 rfl ?_
    refine r_isub h dX12_apart_13 ?_
    exact r_ret1 hr dX12_apart_14 (rI_iw _) hf
  · have hf := ite_f hc1 hf
    refine r_iload_n h dX12_apart_5 rfl 1 rfl ?_
    refine r_iload_n h dX12_apart_6 rfl 0 rfl ?_
    refine r_isub h dX12_apart_7 ?_
    refine r_goto (tgt := 14) h dX12_apart_8 (by decide) ?_
    exact r_ret1 hr dX12_apart_14 (rI_iw _) hf
set_option maxRecDepth 20000 in
theorem b_Mo_changes_123 {l : Launch} {D : va_G} {cs : Nat → ClassId} {aS aV : Nat} {A : Nat → Prop} {K : KT} {ad : Nat → Nat} {n : Nat} {nl : Nat → Nat → Bool} {out : Int × SS} (h : w_Cl l rm_Mo_changes D cs aS aV A cX12_changes 10 RX12 "changes" K) (hr : w_Rt 1 cX12_changes 0 0 (w_Po ad n nl out) K) (hw : w_WH n nl) (ht : 86 < n) {y1 : Int} (ry1 : rI y1) {y2 : Int} (ry2 : rI y2) {y3 : Int} (ry3 : rI y3) {y4 : Int} (ry4 : rI y4) {y5 : Int} (ry5 : rI y5) {y6 : Int} (ry6 : rI y6) (self6 : Int → Int → SS → OO) (hself6 : ∀ (x5 : Int) (x6 : Int) (τ : SS), rI x5 → rI x6 → self6 x5 x6 τ = some out → K ad n nl 0 0 6 [(0, .ref (ad 86)), (1, .int (vI y1)), (2, .int (vI y2)), (3, .int (vI y3)), (4, .int (vI y4)), (5, .int (vI x5)), (6, .int (vI x6))] [] τ) : ∀ (fu : Nat) (x9 : Int) (s0 : SS), rI x9 → l_Mo_changes_123 self6 y1 y2 y3 y4 y5 y6 fu x9 s0 = some out → K ad n nl 0 0 123 [(0, .ref (ad 86)), (1, .int (vI y1)), (2, .int (vI y2)), (3, .int (vI y3)), (4, .int (vI y4)), (5, .int (vI y5)), (6, .int (vI y6)), (9, .int (vI x9))] [] s0 := by
  intro fu
  induction fu with
  | zero =>
    intro x9 s0 rx9 hf
    rw [l_Mo_changes_123] at hf
    cases hf
  | succ fu ih =>
    intro x9 s0 rx9 hf
    rw [l_Mo_changes_123] at hf
    refine r_rS h (fun hs0 => ?_)
    refine r_iload h dX12_changes_123 7 rfl ?_
    refine r_iconst h dX12_changes_125 ?_
    refine r_icmp_ge (tgt := 149) h dX12_changes_126 (by decide) rx9 (rIc rfl) (fun hc1 => ?_) (fun hc1 => ?_)
    · have hf := ite_t hc1 hf
      refine r_iinc h [(6, .int (vI (iw (y6 + 1)))), (0, .ref (ad 86)), (1, .int (vI y1)), (2, .int (vI y2)), (3, .int (vI y3)), (4, .int (vI y4)), (5, .int (vI y5)), (9, .int (vI x9))] dX12_changes_149 6 rfl (by decide) rfl ?_
      refine r_goto (tgt := 6) h dX12_changes_152 (by decide) ?_
      refine r_sub h [1, 2, 3, 4, 5, 6, 0] rfl ?_
      exact hself6 y5 (iw (y6 + 1)) s0 ry5 (rI_iw _) hf
    · have hf := ite_f hc1 hf
      refine r_aload_n h dX12_changes_129 rfl 0 rfl ?_
      have hq2 := w_ref hw ht rC_86 (by decide) (k := 73) (by decide) rf_12_73
      refine g_X12_146 h dX12_changes_130 ht rC_86 hq2.1 ?_
      refine r_iload h dX12_changes_133 7 rfl ?_
      refine r_aload_n h dX12_changes_135 rfl 0 rfl ?_
      have hq3 := w_ref hw ht rC_86 (by decide) (k := 74) (by decide) rf_12_74
      refine g_X12_149 h dX12_changes_136 ht rC_86 hq3.1 ?_
      refine r_iload h dX12_changes_139 7 rfl ?_
      obtain ⟨hi4, hf⟩ := oc_some hf
      refine r_iald h dX12_changes_141 hq3.2 rC_130 rx9 (N := 4) (by rw [rN_130]; rfl) (j := (x9).toNat) rfl hi4 ?_
      obtain ⟨hi5, hf⟩ := oc_some hf
      refine r_iast h dX12_changes_142 hq2.2 rC_129 rx9 (N := 4) (by rw [rN_129]; rfl) (j := (x9).toNat) rfl hi5 (hs0.1 _ _) ?_
      refine r_os hf (fun s6 hf => ?_)
      refine r_rS h (fun hs6 => ?_)
      refine r_iinc h [(9, .int (vI (iw (x9 + 1)))), (0, .ref (ad 86)), (1, .int (vI y1)), (2, .int (vI y2)), (3, .int (vI y3)), (4, .int (vI y4)), (5, .int (vI y5)), (6, .int (vI y6))] dX12_changes_143 7 rfl (by decide) rfl ?_
      refine r_goto (tgt := 123) h dX12_changes_146 (by decide) ?_
      refine r_sub h [1, 2, 3, 4, 5, 6, 7, 0] rfl ?_
      exact ih (iw (x9 + 1)) s6 (rI_iw _) hf
set_option maxRecDepth 20000 in
theorem b_Mo_changes_91 {l : Launch} {D : va_G} {cs : Nat → ClassId} {aS aV : Nat} {A : Nat → Prop} {K : KT} {ad : Nat → Nat} {n : Nat} {nl : Nat → Nat → Bool} {out : Int × SS} (h : w_Cl l rm_Mo_changes D cs aS aV A cX12_changes 10 RX12 "changes" K) (hr : w_Rt 1 cX12_changes 0 0 (w_Po ad n nl out) K) (hw : w_WH n nl) (ht : 86 < n) (x1 : Int) (x2 : Int) (x3 : Int) (x4 : Int) (x5 : Int) (x6 : Int) (x8 : Int) (self6 : Int → Int → SS → OO) (hself6 : ∀ (x5 : Int) (x6 : Int) (τ : SS), rI x5 → rI x6 → self6 x5 x6 τ = some out → K ad n nl 0 0 6 [(0, .ref (ad 86)), (1, .int (vI x1)), (2, .int (vI x2)), (3, .int (vI x3)), (4, .int (vI x4)), (5, .int (vI x5)), (6, .int (vI x6))] [] τ) (s0 : SS) (rx1 : rI x1) (rx2 : rI x2) (rx3 : rI x3) (rx4 : rI x4) (rx5 : rI x5) (rx6 : rI x6) (rx8 : rI x8) (hf : j_Mo_changes_91 self6 x1 x2 x3 x4 x5 x6 x8 s0 = some out) : K ad n nl 0 0 91 [(0, .ref (ad 86)), (1, .int (vI x1)), (2, .int (vI x2)), (3, .int (vI x3)), (4, .int (vI x4)), (5, .int (vI x5)), (6, .int (vI x6)), (8, .int (vI x8))] [] s0 := by
  unfold j_Mo_changes_91 at hf
  refine r_rS h (fun hs0 => ?_)
  refine r_aload_n h dX12_changes_91 rfl 0 rfl ?_
  refine r_iload_n h dX12_changes_92 rfl 1 rfl ?_
  refine r_iload_n h dX12_changes_93 rfl 2 rfl ?_
  refine r_aload_n h dX12_changes_94 rfl 0 rfl ?_
  have hq1 := w_ref hw ht rC_86 (by decide) (k := 74) (by decide) rf_12_74
  refine g_X12_149 h dX12_changes_95 ht rC_86 hq1.1 ?_
  obtain ⟨r2, s2, hq2, hf⟩ := ob_some hf
  refine r_callV0 h [.int (vI x1), .int (vI x2), .ref (ad 130)] dX12_changes_98 (fun hs => m_Mo_layTempers hw ht rx1 rx2 hq1.2 rC_130 hs hq2) ml_X12_557 cv_Mo_layTempers rfl (co := 12) rfl (by decide) ht rC_86 ⟨rfl, rfl⟩ ⟨Nat.le_of_ble_eq_true rfl, Nat.le_of_ble_eq_true rfl⟩ ⟨Nat.le_of_ble_eq_true rfl, Nat.le_of_ble_eq_true rfl⟩ (Nat.le_of_ble_eq_true rfl) rfl (fun hr2 hs2 => ?_)
  refine r_aload_n h dX12_changes_101 rfl 0 rfl ?_
  refine r_iload_n h dX12_changes_102 rfl 1 rfl ?_
  refine r_iload_n h dX12_changes_103 rfl 2 rfl ?_
  refine r_iload_n h dX12_changes_104 rfl 3 rfl ?_
  obtain ⟨r3, s3, hq3, hf⟩ := ob_some hf
  refine r_callV1 h [.int (vI x1), .int (vI x2), .int (vI x3)] dX12_changes_105 (fun hs => m_Mo_openLength hw ht rx1 rx2 rx3 hs hq3) ml_X12_439 cv_Mo_openLength rfl (co := 12) rfl (by decide) ht rC_86 ⟨rfl, rfl⟩ ⟨Nat.le_of_ble_eq_true rfl, Nat.le_of_ble_eq_true rfl⟩ ⟨Nat.le_of_ble_eq_true rfl, Nat.le_of_ble_eq_true rfl⟩ (Nat.le_of_ble_eq_true rfl) rfl (fun hr3 hs3 => ?_)
  refine r_iload h dX12_changes_108 4 rfl ?_
  refine r_icmp_eq (tgt := 116) h dX12_changes_110 (by decide) hr3 rx4 (fun hc4 => ?_) (fun hc4 => ?_)
  · have hf := ite_t hc4 hf
    refine r_iload h dX12_changes_116 7 rfl ?_
    refine r_istore h [(5, .int (vI x8)), (0, .ref (ad 86)), (1, .int (vI x1)), (2, .int (vI x2)), (3, .int (vI x3)), (4, .int (vI x4)), (6, .int (vI x6)), (8, .int (vI x8))] dX12_changes_118 (by decide) rfl ?_
    refine r_iconst h dX12_changes_120 ?_
    refine r_istore h [(9, .int (vI 0)), (5, .int (vI x8)), (0, .ref (ad 86)), (1, .int (vI x1)), (2, .int (vI x2)), (3, .int (vI x3)), (4, .int (vI x4)), (6, .int (vI x6)), (8, .int (vI x8))] dX12_changes_121 (by decide) rfl ?_
    refine r_sub h [2, 3, 4, 5, 6, 1, 7, 0] rfl ?_
    exact b_Mo_changes_123 h hr hw ht rx1 rx2 rx3 rx4 rx8 rx6 self6 hself6 FU 0 s3 (rIc rfl) hf
  · have hf := ite_f hc4 hf
    refine r_goto (tgt := 149) h dX12_changes_113 (by decide) ?_
    refine r_iinc h [(6, .int (vI (iw (x6 + 1)))), (0, .ref (ad 86)), (1, .int (vI x1)), (2, .int (vI x2)), (3, .int (vI x3)), (4, .int (vI x4)), (5, .int (vI x5)), (8, .int (vI x8))] dX12_changes_149 6 rfl (by decide) rfl ?_
    refine r_goto (tgt := 6) h dX12_changes_152 (by decide) ?_
    refine r_sub h [1, 2, 3, 4, 5, 6, 0] rfl ?_
    exact hself6 x5 (iw (x6 + 1)) s3 rx5 (rI_iw _) hf
set_option maxRecDepth 20000 in
theorem b_Mo_changes_24 {l : Launch} {D : va_G} {cs : Nat → ClassId} {aS aV : Nat} {A : Nat → Prop} {K : KT} {ad : Nat → Nat} {n : Nat} {nl : Nat → Nat → Bool} {out : Int × SS} (h : w_Cl l rm_Mo_changes D cs aS aV A cX12_changes 10 RX12 "changes" K) (hr : w_Rt 1 cX12_changes 0 0 (w_Po ad n nl out) K) (hw : w_WH n nl) (ht : 86 < n) {y1 : Int} (ry1 : rI y1) {y2 : Int} (ry2 : rI y2) {y3 : Int} (ry3 : rI y3) {y4 : Int} (ry4 : rI y4) {y5 : Int} (ry5 : rI y5) {y6 : Int} (ry6 : rI y6) (self6 : Int → Int → SS → OO) (hself6 : ∀ (x5 : Int) (x6 : Int) (τ : SS), rI x5 → rI x6 → self6 x5 x6 τ = some out → K ad n nl 0 0 6 [(0, .ref (ad 86)), (1, .int (vI y1)), (2, .int (vI y2)), (3, .int (vI y3)), (4, .int (vI y4)), (5, .int (vI x5)), (6, .int (vI x6))] [] τ) : ∀ (fu : Nat) (x7 : Int) (x8 : Int) (x9 : Int) (s0 : SS), rI x7 → rI x8 → rI x9 → l_Mo_changes_24 self6 y1 y2 y3 y4 y5 y6 fu x7 x8 x9 s0 = some out → K ad n nl 0 0 24 [(0, .ref (ad 86)), (1, .int (vI y1)), (2, .int (vI y2)), (3, .int (vI y3)), (4, .int (vI y4)), (5, .int (vI y5)), (6, .int (vI y6)), (7, .int (vI x7)), (8, .int (vI x8)), (9, .int (vI x9))] [] s0 := by
  intro fu
  induction fu with
  | zero =>
    intro x7 x8 x9 s0 rx7 rx8 rx9 hf
    rw [l_Mo_changes_24] at hf
    cases hf
  | succ fu ih =>
    intro x7 x8 x9 s0 rx7 rx8 rx9 hf
    rw [l_Mo_changes_24] at hf
    refine r_rS h (fun hs0 => ?_)
    refine r_iload h dX12_changes_24 9 rfl ?_
    refine r_if_lt (tgt := 76) h dX12_changes_26 (by decide) rx9 (fun hc1 => ?_) (fun hc1 => ?_)
    · have hf := ite_t hc1 hf
      refine r_iload h dX12_changes_76 5 rfl ?_
      refine r_if_lt (tgt := 91) h dX12_changes_78 (by decide) ry5 (fun hc2 => ?_) (fun hc2 => ?_)
      · have hf := ite_t hc2 hf
        refine r_sub h [0, 1, 2, 3, 4, 5, 6, 8] rfl ?_
        exact b_Mo_changes_91 h hr hw ht y1 y2 y3 y4 y5 y6 x8 self6 hself6 s0 ry1 ry2 ry3 ry4 ry5 ry6 rx8 hf
      · have hf := ite_f hc2 hf
        refine r_iload h dX12_changes_81 8 rfl ?_
        refine r_iload h dX12_changes_83 5 rfl ?_
        refine r_icmp_lt (tgt := 91) h dX12_changes_85 (by decide) rx8 ry5 (fun hc3 => ?_) (fun hc3 => ?_)
        · have hf := ite_t hc3 hf
          refine r_sub h [0, 1, 2, 3, 4, 5, 6, 8] rfl ?_
          exact b_Mo_changes_91 h hr hw ht y1 y2 y3 y4 y5 y6 x8 self6 hself6 s0 ry1 ry2 ry3 ry4 ry5 ry6 rx8 hf
        · have hf := ite_f hc3 hf
          refine r_goto (tgt := 149) h dX12_changes_88 (by decide) ?_
          refine r_iinc h [(6, .int (vI (iw (y6 + 1)))), (0, .ref (ad 86)), (1, .int (vI y1)), (2, .int (vI y2)), (3, .int (vI y3)), (4, .int (vI y4)), (5, .int (vI y5)), (7, .int (vI x7)), (8, .int (vI x8)), (9, .int (vI x9))] dX12_changes_149 6 rfl (by decide) rfl ?_
          refine r_goto (tgt := 6) h dX12_changes_152 (by decide) ?_
          refine r_sub h [1, 2, 3, 4, 5, 6, 0] rfl ?_
          exact hself6 y5 (iw (y6 + 1)) s0 ry5 (rI_iw _) hf
    · have hf := ite_f hc1 hf
      refine r_aload_n h dX12_changes_29 rfl 0 rfl ?_
      have hq4 := w_ref hw ht rC_86 (by decide) (k := 74) (by decide) rf_12_74
      refine g_X12_149 h dX12_changes_30 ht rC_86 hq4.1 ?_
      refine r_iload h dX12_changes_33 9 rfl ?_
      refine r_iload h dX12_changes_35 7 rfl ?_
      refine r_bipush h dX12_changes_37 (by decide) ?_
      refine r_irem h dX12_changes_39 rx7 (rIc rfl) (by decide) ?_
      obtain ⟨hi5, hf⟩ := oc_some hf
      refine r_iast h dX12_changes_40 hq4.2 rC_130 rx9 (N := 4) (by rw [rN_130]; rfl) (j := (x9).toNat) rfl hi5 (rI_tmod rx7 (rIc rfl)) ?_
      refine r_os hf (fun s6 hf => ?_)
      refine r_rS h (fun hs6 => ?_)
      refine r_iload h dX12_changes_41 7 rfl ?_
      refine r_bipush h dX12_changes_43 (by decide) ?_
      refine r_idivP h dX12_changes_45 rx7 (rIc rfl) (by decide) ?_
      refine r_ol hf (rI_tdivP rx7 (by decide)) (fun x7_ rx7_ hf => ?_)
      refine r_istore h [(7, .int (vI x7_)), (0, .ref (ad 86)), (1, .int (vI y1)), (2, .int (vI y2)), (3, .int (vI y3)), (4, .int (vI y4)), (5, .int (vI y5)), (6, .int (vI y6)), (8, .int (vI x8)), (9, .int (vI x9))] dX12_changes_46 (by decide) rfl ?_
      refine r_iload h dX12_changes_48 8 rfl ?_
      refine r_aload_n h dX12_changes_50 rfl 1 rfl ?_
      have hq8 := w_ref hw ht rC_86 (by decide) (k := 74) (by decide) rf_12_74
      refine g_X12_149 h dX12_changes_51 ht rC_86 hq8.1 ?_
      refine r_iload h dX12_changes_54 9 rfl ?_
      obtain ⟨hi9, hf⟩ := oc_some hf
      refine r_iald h dX12_changes_56 hq8.2 rC_130 rx9 (N := 4) (by rw [rN_130]; rfl) (j := (x9).toNat) rfl hi9 ?_
      refine r_aload_n h dX12_changes_57 rfl 1 rfl ?_
      have hq10 := w_ref hw ht rC_86 (by decide) (k := 72) (by decide) rf_12_72
      refine g_X12_143 h dX12_changes_58 ht rC_86 hq10.1 ?_
      refine r_iload h dX12_changes_61 9 rfl ?_
      obtain ⟨hi11, hf⟩ := oc_some hf
      refine r_iald h dX12_changes_63 hq10.2 rC_128 rx9 (N := 4) (by rw [rN_128]; rfl) (j := (x9).toNat) rfl hi11 ?_
      obtain ⟨r12, s12, hq12, hf⟩ := ob_some hf
      refine r_callS1 h [.int (vI (gi s6 130 ((x9).toNat))), .int (vI (gi s6 128 ((x9).toNat)))] dX12_changes_64 (fun hs => m_Mo_apart hw (hs6.1 _ _) (hs6.1 _ _) hs hq12) ml_X12_554 cv_Mo_apart rfl ⟨rfl, rfl⟩ ⟨Nat.le_of_ble_eq_true rfl, Nat.le_of_ble_eq_true rfl⟩ ⟨Nat.le_of_ble_eq_true rfl, Nat.le_of_ble_eq_true rfl⟩ (Nat.le_of_ble_eq_true rfl) rfl (fun hr12 hs12 => ?_)
      refine r_iadd h dX12_changes_67 ?_
      refine r_ol hf (rI_iw _) (fun x13_ rx13_ hf => ?_)
      refine r_istore h [(8, .int (vI x13_)), (7, .int (vI x7_)), (0, .ref (ad 86)), (1, .int (vI y1)), (2, .int (vI y2)), (3, .int (vI y3)), (4, .int (vI y4)), (5, .int (vI y5)), (6, .int (vI y6)), (9, .int (vI x9))] dX12_changes_68 (by decide) rfl ?_
      refine r_iinc h [(9, .int (vI (iw (x9 + (-1))))), (8, .int (vI x13_)), (7, .int (vI x7_)), (0, .ref (ad 86)), (1, .int (vI y1)), (2, .int (vI y2)), (3, .int (vI y3)), (4, .int (vI y4)), (5, .int (vI y5)), (6, .int (vI y6))] dX12_changes_70 9 rfl (by decide) rfl ?_
      refine r_goto (tgt := 24) h dX12_changes_73 (by decide) ?_
      refine r_sub h [3, 4, 5, 6, 7, 8, 9, 2, 1, 0] rfl ?_
      exact ih x7_ x13_ (iw (x9 + (-1))) s12 rx7_ rx13_ (rI_iw _) hf
set_option maxRecDepth 20000 in
theorem b_Mo_changes_6 {l : Launch} {D : va_G} {cs : Nat → ClassId} {aS aV : Nat} {A : Nat → Prop} {K : KT} {ad : Nat → Nat} {n : Nat} {nl : Nat → Nat → Bool} {out : Int × SS} (h : w_Cl l rm_Mo_changes D cs aS aV A cX12_changes 10 RX12 "changes" K) (hr : w_Rt 1 cX12_changes 0 0 (w_Po ad n nl out) K) (hw : w_WH n nl) (ht : 86 < n) {y1 : Int} (ry1 : rI y1) {y2 : Int} (ry2 : rI y2) {y3 : Int} (ry3 : rI y3) {y4 : Int} (ry4 : rI y4) : ∀ (fu : Nat) (x5 : Int) (x6 : Int) (s0 : SS), rI x5 → rI x6 → l_Mo_changes_6 y1 y2 y3 y4 fu x5 x6 s0 = some out → K ad n nl 0 0 6 [(0, .ref (ad 86)), (1, .int (vI y1)), (2, .int (vI y2)), (3, .int (vI y3)), (4, .int (vI y4)), (5, .int (vI x5)), (6, .int (vI x6))] [] s0 := by
  intro fu
  induction fu with
  | zero =>
    intro x5 x6 s0 rx5 rx6 hf
    rw [l_Mo_changes_6] at hf
    cases hf
  | succ fu ih =>
    intro x5 x6 s0 rx5 rx6 hf
    rw [l_Mo_changes_6] at hf
    refine r_rS h (fun hs0 => ?_)
    refine r_iload h dX12_changes_6 6 rfl ?_
    refine r_sipush h dX12_changes_8 (by decide) ?_
    refine r_icmp_ge (tgt := 155) h dX12_changes_11 (by decide) rx6 (rIc rfl) (fun hc1 => ?_) (fun hc1 => ?_)
    · have hf := ite_t hc1 hf
      refine r_iload h dX12_changes_155 5 rfl ?_
      exact r_ret1 hr dX12_changes_157 rx5 hf
    · have hf := ite_f hc1 hf
      refine r_iload h dX12_changes_14 6 rfl ?_
      refine r_istore h [(7, .int (vI x6)), (0, .ref (ad 86)), (1, .int (vI y1)), (2, .int (vI y2)), (3, .int (vI y3)), (4, .int (vI y4)), (5, .int (vI x5)), (6, .int (vI x6))] dX12_changes_16 (by decide) rfl ?_
      refine r_iconst h dX12_changes_18 ?_
      refine r_istore h [(8, .int (vI 0)), (7, .int (vI x6)), (0, .ref (ad 86)), (1, .int (vI y1)), (2, .int (vI y2)), (3, .int (vI y3)), (4, .int (vI y4)), (5, .int (vI x5)), (6, .int (vI x6))] dX12_changes_19 (by decide) rfl ?_
      refine r_iconst h dX12_changes_21 ?_
      refine r_istore h [(9, .int (vI 3)), (8, .int (vI 0)), (7, .int (vI x6)), (0, .ref (ad 86)), (1, .int (vI y1)), (2, .int (vI y2)), (3, .int (vI y3)), (4, .int (vI y4)), (5, .int (vI x5)), (6, .int (vI x6))] dX12_changes_22 (by decide) rfl ?_
      refine r_sub h [3, 4, 5, 6, 7, 8, 9, 2, 1, 0] rfl ?_
      exact b_Mo_changes_24 h hr hw ht ry1 ry2 ry3 ry4 rx5 rx6 (l_Mo_changes_6 y1 y2 y3 y4 fu) ih FU x6 0 3 s0 rx6 (rIc rfl) (rIc rfl) hf
set_option maxRecDepth 20000 in
theorem m_Mo_changes {l : Launch} {D : va_G} {cs : Nat → ClassId} {aS aV : Nat} {A : Nat → Prop} {ad : Nat → Nat} {n : Nat} {nl : Nat → Nat → Bool} {out : Int × SS} (hw : w_WH n nl) (ht : 86 < n) {a1 : Int} (ra1 : rI a1) {a2 : Int} (ra2 : rI a2) {a3 : Int} (ra3 : rI a3) {a4 : Int} (ra4 : rI a4) {s0 : SS} (hs0 : rS s0) (hf : f_Mo_changes a1 a2 a3 a4 s0 = some out) : w_MC l D cs aS aV A yX12_changes cX12_changes 10 1 rm_Mo_changes ad n nl [.ref (ad 86), .int (vI a1), .int (vI a2), .int (vI a3), .int (vI a4)] s0 (w_Po ad n nl out) := by
  refine w_MC_of (by decide +kernel) (by decide) hs0 (Nat.le_of_ble_eq_true rfl) (fun K h hr => ?_)
  refine r_lv (lv' := [(0, .ref (ad 86)), (1, .int (vI a1)), (2, .int (vI a2)), (3, .int (vI a3)), (4, .int (vI a4))]) rfl ?_
  unfold f_Mo_changes at hf
  refine r_rS h (fun hs0 => ?_)
  refine r_iconst h dX12_changes_0 ?_
  refine r_istore h [(5, .int (vI (-1))), (0, .ref (ad 86)), (1, .int (vI a1)), (2, .int (vI a2)), (3, .int (vI a3)), (4, .int (vI a4))] dX12_changes_1 (by decide) rfl ?_
  refine r_iconst h dX12_changes_3 ?_
  refine r_istore h [(6, .int (vI 0)), (5, .int (vI (-1))), (0, .ref (ad 86)), (1, .int (vI a1)), (2, .int (vI a2)), (3, .int (vI a3)), (4, .int (vI a4))] dX12_changes_4 (by decide) rfl ?_
  refine r_sub h [2, 3, 4, 5, 6, 1, 0] rfl ?_
  exact b_Mo_changes_6 h hr hw ht ra1 ra2 ra3 ra4 FU (-1) 0 s0 (rIc rfl) (rIc rfl) hf
set_option maxRecDepth 20000 in
theorem b_Mo_temper_128 {l : Launch} {D : va_G} {cs : Nat → ClassId} {aS aV : Nat} {A : Nat → Prop} {K : KT} {ad : Nat → Nat} {n : Nat} {nl : Nat → Nat → Bool} {out : Int × SS} (h : w_Cl l rm_Mo_temper D cs aS aV A cX12_temper 7 RX12 "temper" K) (hr : w_Rt 1 cX12_temper 0 0 (w_Po ad n nl out) K) (hw : w_WH n nl) (ht : 86 < n) {y5 : Int} (ry5 : rI y5) : ∀ (fu : Nat) (x6 : Int) (s0 : SS), rI x6 → l_Mo_temper_128 y5 fu x6 s0 = some out → K ad n nl 0 0 128 [(0, .ref (ad 86)), (5, .int (vI y5)), (6, .int (vI x6))] [] s0 := by
  intro fu
  induction fu with
  | zero =>
    intro x6 s0 rx6 hf
    rw [l_Mo_temper_128] at hf
    cases hf
  | succ fu ih =>
    intro x6 s0 rx6 hf
    rw [l_Mo_temper_128] at hf
    refine r_rS h (fun hs0 => ?_)
    refine r_iload h dX12_temper_128 2 rfl ?_
    refine r_iconst h dX12_temper_130 ?_
    refine r_icmp_ge (tgt := 154) h dX12_temper_131 (by decide) rx6 (rIc rfl) (fun hc1 => ?_) (fun hc1 => ?_)
    · have hf := ite_t hc1 hf
      refine r_aload_n h dX12_temper_154 rfl 0 rfl ?_
      refine r_iconst h dX12_temper_155 ?_
      refine p_X12_466 h dX12_temper_156 ht rC_86 (rIc rfl) ?_
      refine r_os hf (fun s2 hf => ?_)
      refine r_rS h (fun hs2 => ?_)
      refine r_iload h dX12_temper_159 1 rfl ?_
      exact r_ret1 hr dX12_temper_161 ry5 hf
    · have hf := ite_f hc1 hf
      refine r_aload_n h dX12_temper_134 rfl 0 rfl ?_
      have hq3 := w_ref hw ht rC_86 (by decide) (k := 59) (by decide) rf_12_59
      refine g_X12_122 h dX12_temper_135 ht rC_86 hq3.1 ?_
      refine r_iload h dX12_temper_138 2 rfl ?_
      refine r_aload_n h dX12_temper_140 rfl 0 rfl ?_
      have hq4 := w_ref hw ht rC_86 (by decide) (k := 73) (by decide) rf_12_73
      refine g_X12_146 h dX12_temper_141 ht rC_86 hq4.1 ?_
      refine r_iload h dX12_temper_144 2 rfl ?_
      obtain ⟨hi5, hf⟩ := oc_some hf
      refine r_iald h dX12_temper_146 hq4.2 rC_129 rx6 (N := 4) (by rw [rN_129]; rfl) (j := (x6).toNat) rfl hi5 ?_
      obtain ⟨hi6, hf⟩ := oc_some hf
      refine r_iast h dX12_temper_147 hq3.2 rC_122 rx6 (N := 12) (by rw [rN_122]; rfl) (j := (x6).toNat) rfl hi6 (hs0.1 _ _) ?_
      refine r_os hf (fun s7 hf => ?_)
      refine r_rS h (fun hs7 => ?_)
      refine r_iinc h [(6, .int (vI (iw (x6 + 1)))), (0, .ref (ad 86)), (5, .int (vI y5))] dX12_temper_148 2 rfl (by decide) rfl ?_
      refine r_goto (tgt := 128) h dX12_temper_151 (by decide) ?_
      refine r_sub h [1, 2, 0] rfl ?_
      exact ih (iw (x6 + 1)) s7 (rI_iw _) hf
set_option maxRecDepth 20000 in
theorem m_Mo_temper {l : Launch} {D : va_G} {cs : Nat → ClassId} {aS aV : Nat} {A : Nat → Prop} {ad : Nat → Nat} {n : Nat} {nl : Nat → Nat → Bool} {out : Int × SS} (hw : w_WH n nl) (ht : 86 < n) {a1 : Int} (ra1 : rI a1) {a2 : Int} (ra2 : rI a2) {a3 : Int} (ra3 : rI a3) {a4 : Int} (ra4 : rI a4) {s0 : SS} (hs0 : rS s0) (hf : f_Mo_temper a1 a2 a3 a4 s0 = some out) : w_MC l D cs aS aV A yX12_temper cX12_temper 7 1 rm_Mo_temper ad n nl [.ref (ad 86), .int (vI a1), .int (vI a2), .int (vI a3), .int (vI a4)] s0 (w_Po ad n nl out) := by
  refine w_MC_of (by decide +kernel) (by decide) hs0 (Nat.le_of_ble_eq_true rfl) (fun K h hr => ?_)
  refine r_lv (lv' := [(0, .ref (ad 86)), (1, .int (vI a1)), (2, .int (vI a2)), (3, .int (vI a3)), (4, .int (vI a4))]) rfl ?_
  unfold f_Mo_temper at hf
  refine r_rS h (fun hs0 => ?_)
  refine r_aload_n h dX12_temper_0 rfl 0 rfl ?_
  refine r_iconst h dX12_temper_1 ?_
  refine p_X12_466 h dX12_temper_2 ht rC_86 (rIc rfl) ?_
  refine r_os hf (fun s1 hf => ?_)
  refine r_rS h (fun hs1 => ?_)
  refine r_aload_n h dX12_temper_5 rfl 0 rfl ?_
  refine r_iload_n h dX12_temper_6 rfl 1 rfl ?_
  refine r_iload_n h dX12_temper_7 rfl 2 rfl ?_
  refine r_iload_n h dX12_temper_8 rfl 3 rfl ?_
  obtain ⟨r2, s2, hq2, hf⟩ := ob_some hf
  refine r_callV2 h [.int (vI a1), .int (vI a2), .int (vI a3)] dX12_temper_9 (fun hs => m_Mo_isCouple hw ht ra1 ra2 ra3 hs hq2) ml_X12_436 cv_Mo_isCouple rfl (co := 12) rfl (by decide) ht rC_86 ⟨rfl, rfl⟩ ⟨Nat.le_of_ble_eq_true rfl, Nat.le_of_ble_eq_true rfl⟩ ⟨Nat.le_of_ble_eq_true rfl, Nat.le_of_ble_eq_true rfl⟩ (Nat.le_of_ble_eq_true rfl) rfl (fun hr2 hs2 => ?_)
  refine r_if_eq (tgt := 26) h dX12_temper_12 (by decide) (rI_b hr2) (fun hc3 => ?_) (fun hc3 => ?_)
  · have hf := ite_t hc3 hf
    refine r_bipush h dX12_temper_26 (by decide) ?_
    exact r_ret1 hr dX12_temper_28 (rIc rfl) hf
  · have hf := ite_f hc3 hf
    refine r_iload h dX12_temper_15 4 rfl ?_
    refine r_iconst h dX12_temper_17 ?_
    refine r_bipush h dX12_temper_18 (by decide) ?_
    obtain ⟨r4, s4, hq4, hf⟩ := ob_some hf
    refine r_callS2 h [.int (vI a4), .int (vI 1), .int (vI 60)] dX12_temper_20 (fun hs => m_Mo_isIn hw ra4 (rIc rfl) (rIc rfl) hs hq4) ml_X12_400 cv_Mo_isIn rfl ⟨rfl, rfl⟩ ⟨Nat.le_of_ble_eq_true rfl, Nat.le_of_ble_eq_true rfl⟩ ⟨Nat.le_of_ble_eq_true rfl, Nat.le_of_ble_eq_true rfl⟩ (Nat.le_of_ble_eq_true rfl) rfl (fun hr4 hs4 => ?_)
    refine r_if_ne (tgt := 29) h dX12_temper_23 (by decide) (rI_b hr4) (fun hc5 => ?_) (fun hc5 => ?_)
    · have hf := ite_f hc5 hf
      refine r_aload_n h dX12_temper_29 rfl 0 rfl ?_
      have hq6 := w_ref hw ht rC_86 (by decide) (k := 72) (by decide) rf_12_72
      refine g_X12_143 h dX12_temper_30 ht rC_86 hq6.1 ?_
      refine r_iconst h dX12_temper_33 ?_
      refine r_aload_n h dX12_temper_34 rfl 0 rfl ?_
      have hq7 := w_ref hw ht rC_86 (by decide) (k := 52) (by decide) rf_12_52
      refine g_X12_110 h dX12_temper_35 ht rC_86 hq7.1 ?_
      refine r_iconst h dX12_temper_38 ?_
      refine r_iconst h dX12_temper_39 ?_
      refine r_iload_n h dX12_temper_40 rfl 1 rfl ?_
      refine r_imul h dX12_temper_41 ?_
      refine r_iadd h dX12_temper_42 ?_
      obtain ⟨hi8, hf⟩ := oc_some hf
      refine r_iald h dX12_temper_43 hq7.2 rC_118 (rI_iw _) (N := 44) (by rw [rN_118]; rfl) (j := (iw (1 + (iw (2 * a1)))).toNat) rfl hi8 ?_
      refine r_iast h dX12_temper_44 hq6.2 rC_128 (rIc rfl) (N := 4) (by rw [rN_128]; rfl) (j := 0) rfl (by decide) (hs4.1 _ _) ?_
      refine r_os hf (fun s9 hf => ?_)
      refine r_rS h (fun hs9 => ?_)
      refine r_aload_n h dX12_temper_45 rfl 0 rfl ?_
      have hq10 := w_ref hw ht rC_86 (by decide) (k := 72) (by decide) rf_12_72
      refine g_X12_143 h dX12_temper_46 ht rC_86 hq10.1 ?_
      refine r_iconst h dX12_temper_49 ?_
      refine r_aload_n h dX12_temper_50 rfl 0 rfl ?_
      have hq11 := w_ref hw ht rC_86 (by decide) (k := 52) (by decide) rf_12_52
      refine g_X12_110 h dX12_temper_51 ht rC_86 hq11.1 ?_
      refine r_iconst h dX12_temper_54 ?_
      refine r_iconst h dX12_temper_55 ?_
      refine r_iload_n h dX12_temper_56 rfl 1 rfl ?_
      refine r_imul h dX12_temper_57 ?_
      refine r_iadd h dX12_temper_58 ?_
      refine r_iconst h dX12_temper_59 ?_
      refine r_iadd h dX12_temper_60 ?_
      obtain ⟨hi12, hf⟩ := oc_some hf
      refine r_iald h dX12_temper_61 hq11.2 rC_118 (rI_iw _) (N := 44) (by rw [rN_118]; rfl) (j := (iw ((iw (1 + (iw (2 * a1)))) + 1)).toNat) rfl hi12 ?_
      refine r_iast h dX12_temper_62 hq10.2 rC_128 (rIc rfl) (N := 4) (by rw [rN_128]; rfl) (j := 1) rfl (by decide) (hs9.1 _ _) ?_
      refine r_os hf (fun s13 hf => ?_)
      refine r_rS h (fun hs13 => ?_)
      refine r_aload_n h dX12_temper_63 rfl 0 rfl ?_
      have hq14 := w_ref hw ht rC_86 (by decide) (k := 72) (by decide) rf_12_72
      refine g_X12_143 h dX12_temper_64 ht rC_86 hq14.1 ?_
      refine r_iconst h dX12_temper_67 ?_
      refine r_aload_n h dX12_temper_68 rfl 0 rfl ?_
      have hq15 := w_ref hw ht rC_86 (by decide) (k := 52) (by decide) rf_12_52
      refine g_X12_110 h dX12_temper_69 ht rC_86 hq15.1 ?_
      refine r_iconst h dX12_temper_72 ?_
      refine r_iconst h dX12_temper_73 ?_
      refine r_iload_n h dX12_temper_74 rfl 2 rfl ?_
      refine r_imul h dX12_temper_75 ?_
      refine r_iadd h dX12_temper_76 ?_
      obtain ⟨hi16, hf⟩ := oc_some hf
      refine r_iald h dX12_temper_77 hq15.2 rC_118 (rI_iw _) (N := 44) (by rw [rN_118]; rfl) (j := (iw (1 + (iw (2 * a2)))).toNat) rfl hi16 ?_
      refine r_iast h dX12_temper_78 hq14.2 rC_128 (rIc rfl) (N := 4) (by rw [rN_128]; rfl) (j := 2) rfl (by decide) (hs13.1 _ _) ?_
      refine r_os hf (fun s17 hf => ?_)
      refine r_rS h (fun hs17 => ?_)
      refine r_aload_n h dX12_temper_79 rfl 0 rfl ?_
      have hq18 := w_ref hw ht rC_86 (by decide) (k := 72) (by decide) rf_12_72
      refine g_X12_143 h dX12_temper_80 ht rC_86 hq18.1 ?_
      refine r_iconst h dX12_temper_83 ?_
      refine r_aload_n h dX12_temper_84 rfl 0 rfl ?_
      have hq19 := w_ref hw ht rC_86 (by decide) (k := 52) (by decide) rf_12_52
      refine g_X12_110 h dX12_temper_85 ht rC_86 hq19.1 ?_
      refine r_iconst h dX12_temper_88 ?_
      refine r_iconst h dX12_temper_89 ?_
      refine r_iload_n h dX12_temper_90 rfl 2 rfl ?_
      refine r_imul h dX12_temper_91 ?_
      refine r_iadd h dX12_temper_92 ?_
      refine r_iconst h dX12_temper_93 ?_
      refine r_iadd h dX12_temper_94 ?_
      obtain ⟨hi20, hf⟩ := oc_some hf
      refine r_iald h dX12_temper_95 hq19.2 rC_118 (rI_iw _) (N := 44) (by rw [rN_118]; rfl) (j := (iw ((iw (1 + (iw (2 * a2)))) + 1)).toNat) rfl hi20 ?_
      refine r_iast h dX12_temper_96 hq18.2 rC_128 (rIc rfl) (N := 4) (by rw [rN_128]; rfl) (j := 3) rfl (by decide) (hs17.1 _ _) ?_
      refine r_os hf (fun s21 hf => ?_)
      refine r_rS h (fun hs21 => ?_)
      refine r_aload_n h dX12_temper_97 rfl 0 rfl ?_
      refine r_iload_n h dX12_temper_98 rfl 1 rfl ?_
      refine r_iload_n h dX12_temper_99 rfl 2 rfl ?_
      refine r_iload_n h dX12_temper_100 rfl 3 rfl ?_
      refine r_iload h dX12_temper_101 4 rfl ?_
      obtain ⟨r22, s22, hq22, hf⟩ := ob_some hf
      refine r_callV1 h [.int (vI a1), .int (vI a2), .int (vI a3), .int (vI a4)] dX12_temper_103 (fun hs => m_Mo_changes hw ht ra1 ra2 ra3 ra4 hs hq22) ml_X12_561 cv_Mo_changes rfl (co := 12) rfl (by decide) ht rC_86 ⟨rfl, rfl⟩ ⟨Nat.le_of_ble_eq_true rfl, Nat.le_of_ble_eq_true rfl⟩ ⟨Nat.le_of_ble_eq_true rfl, Nat.le_of_ble_eq_true rfl⟩ (Nat.le_of_ble_eq_true rfl) rfl (fun hr22 hs22 => ?_)
      refine r_istore h [(5, .int (vI r22)), (0, .ref (ad 86)), (1, .int (vI a1)), (2, .int (vI a2)), (3, .int (vI a3)), (4, .int (vI a4))] dX12_temper_106 (by decide) rfl ?_
      refine r_aload_n h dX12_temper_108 rfl 1 rfl ?_
      refine r_iload_n h dX12_temper_109 rfl 2 rfl ?_
      refine r_iload_n h dX12_temper_110 rfl 3 rfl ?_
      refine r_aload_n h dX12_temper_111 rfl 1 rfl ?_
      have hq23 := w_ref hw ht rC_86 (by decide) (k := 72) (by decide) rf_12_72
      refine g_X12_143 h dX12_temper_112 ht rC_86 hq23.1 ?_
      obtain ⟨r24, s24, hq24, hf⟩ := ob_some hf
      refine r_callV0 h [.int (vI a1), .int (vI a2), .ref (ad 128)] dX12_temper_115 (fun hs => m_Mo_layTempers hw ht ra1 ra2 hq23.2 rC_128 hs hq24) ml_X12_557 cv_Mo_layTempers rfl (co := 12) rfl (by decide) ht rC_86 ⟨rfl, rfl⟩ ⟨Nat.le_of_ble_eq_true rfl, Nat.le_of_ble_eq_true rfl⟩ ⟨Nat.le_of_ble_eq_true rfl, Nat.le_of_ble_eq_true rfl⟩ (Nat.le_of_ble_eq_true rfl) rfl (fun hr24 hs24 => ?_)
      refine r_iload h dX12_temper_118 0 rfl ?_
      refine r_if_ge (tgt := 125) h dX12_temper_120 (by decide) hr22 (fun hc25 => ?_) (fun hc25 => ?_)
      · have hf := ite_t hc25 hf
        refine r_iconst h dX12_temper_125 ?_
        refine r_istore h [(6, .int (vI 0)), (5, .int (vI r22)), (0, .ref (ad 86)), (1, .int (vI a1)), (2, .int (vI a2)), (3, .int (vI a3)), (4, .int (vI a4))] dX12_temper_126 (by decide) rfl ?_
        refine r_sub h [2, 1, 0] rfl ?_
        exact b_Mo_temper_128 h hr hw ht hr22 FU 0 s24 (rIc rfl) hf
      · have hf := ite_f hc25 hf
        refine r_iconst h dX12_temper_123 ?_
        exact r_ret1 hr dX12_temper_124 (rIc rfl) hf
    · have hf := ite_nf hc5 hf
      refine r_bipush h dX12_temper_26 (by decide) ?_
      exact r_ret1 hr dX12_temper_28 (rIc rfl) hf
set_option maxRecDepth 20000 in
theorem m_Mo_toldLength {l : Launch} {D : va_G} {cs : Nat → ClassId} {aS aV : Nat} {A : Nat → Prop} {ad : Nat → Nat} {n : Nat} {nl : Nat → Nat → Bool} {out : Int × SS} (hw : w_WH n nl) (ht : 86 < n) {a1 : Int} (ra1 : rI a1) {a2 : Int} (ra2 : rI a2) {a3 : Int} (ra3 : rI a3) {s0 : SS} (hs0 : rS s0) (hf : f_Mo_toldLength a1 a2 a3 s0 = some out) : w_MC l D cs aS aV A yX12_toldLength cX12_toldLength 5 1 rm_Mo_toldLength ad n nl [.ref (ad 86), .int (vI a1), .int (vI a2), .int (vI a3)] s0 (w_Po ad n nl out) := by
  refine w_MC_of (by decide +kernel) (by decide) hs0 (Nat.le_of_ble_eq_true rfl) (fun K h hr => ?_)
  refine r_lv (lv' := [(0, .ref (ad 86)), (1, .int (vI a1)), (2, .int (vI a2)), (3, .int (vI a3))]) rfl ?_
  unfold f_Mo_toldLength at hf
  refine r_rS h (fun hs0 => ?_)
  refine r_aload_n h dX12_toldLength_0 rfl 0 rfl ?_
  refine r_iconst h dX12_toldLength_1 ?_
  refine p_X12_407 h dX12_toldLength_2 ht rC_86 (Or.inr rfl) ?_
  refine r_os hf (fun s1 hf => ?_)
  refine r_rS h (fun hs1 => ?_)
  refine r_aload_n h dX12_toldLength_5 rfl 0 rfl ?_
  refine r_iload_n h dX12_toldLength_6 rfl 1 rfl ?_
  refine r_iload_n h dX12_toldLength_7 rfl 2 rfl ?_
  refine r_iload_n h dX12_toldLength_8 rfl 3 rfl ?_
  obtain ⟨r2, s2, hq2, hf⟩ := ob_some hf
  refine r_callV1 h [.int (vI a1), .int (vI a2), .int (vI a3)] dX12_toldLength_9 (fun hs => m_Mo_openLength hw ht ra1 ra2 ra3 hs hq2) ml_X12_439 cv_Mo_openLength rfl (co := 12) rfl (by decide) ht rC_86 ⟨rfl, rfl⟩ ⟨Nat.le_of_ble_eq_true rfl, Nat.le_of_ble_eq_true rfl⟩ ⟨Nat.le_of_ble_eq_true rfl, Nat.le_of_ble_eq_true rfl⟩ (Nat.le_of_ble_eq_true rfl) rfl (fun hr2 hs2 => ?_)
  refine r_istore h [(4, .int (vI r2)), (0, .ref (ad 86)), (1, .int (vI a1)), (2, .int (vI a2)), (3, .int (vI a3))] dX12_toldLength_12 (by decide) rfl ?_
  refine r_aload_n h dX12_toldLength_14 rfl 1 rfl ?_
  refine r_iconst h dX12_toldLength_15 ?_
  refine p_X12_407 h dX12_toldLength_16 ht rC_86 (Or.inl rfl) ?_
  refine r_os hf (fun s3 hf => ?_)
  refine r_rS h (fun hs3 => ?_)
  refine r_iload h dX12_toldLength_19 0 rfl ?_
  exact r_ret1 hr dX12_toldLength_21 hr2 hf
set_option maxRecDepth 20000 in
theorem m_Mo_report {l : Launch} {D : va_G} {cs : Nat → ClassId} {aS aV : Nat} {A : Nat → Prop} {ad : Nat → Nat} {n : Nat} {nl : Nat → Nat → Bool} {out : Int × SS} (hw : w_WH n nl) (ht : 86 < n) {a1 : Int} (ra1 : rI a1) {a2 : Int} (ra2 : rI a2) {a3 : Int} (ra3 : rI a3) {a4 : Int} (ra4 : rI a4) {s0 : SS} (hs0 : rS s0) (hf : f_Mo_report a1 a2 a3 a4 s0 = some out) : w_MC l D cs aS aV A yX12_report cX12_report 5 1 rm_Mo_report ad n nl [.ref (ad 86), .int (vI a1), .int (vI a2), .int (vI a3), .int (vI a4)] s0 (w_Po ad n nl out) := by
  refine w_MC_of (by decide +kernel) (by decide) hs0 (Nat.le_of_ble_eq_true rfl) (fun K h hr => ?_)
  refine r_lv (lv' := [(0, .ref (ad 86)), (1, .int (vI a1)), (2, .int (vI a2)), (3, .int (vI a3)), (4, .int (vI a4))]) rfl ?_
  unfold f_Mo_report at hf
  refine r_rS h (fun hs0 => ?_)
  refine r_aload_n h dX12_report_0 rfl 0 rfl ?_
  refine r_iload_n h dX12_report_1 rfl 1 rfl ?_
  refine r_iload_n h dX12_report_2 rfl 2 rfl ?_
  refine r_iload_n h dX12_report_3 rfl 3 rfl ?_
  obtain ⟨r1, s1, hq1, hf⟩ := ob_some hf
  refine r_callV2 h [.int (vI a1), .int (vI a2), .int (vI a3)] dX12_report_4 (fun hs => m_Mo_isCouple hw ht ra1 ra2 ra3 hs hq1) ml_X12_436 cv_Mo_isCouple rfl (co := 12) rfl (by decide) ht rC_86 ⟨rfl, rfl⟩ ⟨Nat.le_of_ble_eq_true rfl, Nat.le_of_ble_eq_true rfl⟩ ⟨Nat.le_of_ble_eq_true rfl, Nat.le_of_ble_eq_true rfl⟩ (Nat.le_of_ble_eq_true rfl) rfl (fun hr1 hs1 => ?_)
  refine r_if_eq (tgt := 29) h dX12_report_7 (by decide) (rI_b hr1) (fun hc2 => ?_) (fun hc2 => ?_)
  · have hf := ite_t hc2 hf
    refine r_iconst h dX12_report_29 ?_
    exact r_ret1 hr dX12_report_30 (rIc rfl) hf
  · have hf := ite_f hc2 hf
    refine r_iload h dX12_report_10 4 rfl ?_
    refine r_iconst h dX12_report_12 ?_
    refine r_iconst h dX12_report_13 ?_
    obtain ⟨r3, s3, hq3, hf⟩ := ob_some hf
    refine r_callS2 h [.int (vI a4), .int (vI 0), .int (vI 2)] dX12_report_14 (fun hs => m_Mo_isIn hw ra4 (rIc rfl) (rIc rfl) hs hq3) ml_X12_400 cv_Mo_isIn rfl ⟨rfl, rfl⟩ ⟨Nat.le_of_ble_eq_true rfl, Nat.le_of_ble_eq_true rfl⟩ ⟨Nat.le_of_ble_eq_true rfl, Nat.le_of_ble_eq_true rfl⟩ (Nat.le_of_ble_eq_true rfl) rfl (fun hr3 hs3 => ?_)
    refine r_if_eq (tgt := 29) h dX12_report_17 (by decide) (rI_b hr3) (fun hc4 => ?_) (fun hc4 => ?_)
    · have hf := ite_t hc4 hf
      refine r_iconst h dX12_report_29 ?_
      exact r_ret1 hr dX12_report_30 (rIc rfl) hf
    · have hf := ite_f hc4 hf
      refine r_aload_n h dX12_report_20 rfl 0 rfl ?_
      refine g_X12_463 h dX12_report_21 ht rC_86 ?_
      refine r_bipush h dX12_report_24 (by decide) ?_
      refine r_icmp_ne (tgt := 31) h dX12_report_26 (by decide) (hs3.1 _ _) (rIc rfl) (fun hc5 => ?_) (fun hc5 => ?_)
      · have hf := ite_f hc5 hf
        refine r_aload_n h dX12_report_31 rfl 0 rfl ?_
        have hq6 := w_ref hw ht rC_86 (by decide) (k := 75) (by decide) rf_12_75
        refine g_X12_152 h dX12_report_32 ht rC_86 hq6.1 ?_
        refine r_aload_n h dX12_report_35 rfl 0 rfl ?_
        refine g_X12_463 h dX12_report_36 ht rC_86 ?_
        refine r_aload_n h dX12_report_39 rfl 0 rfl ?_
        refine r_iload_n h dX12_report_40 rfl 1 rfl ?_
        refine r_iload_n h dX12_report_41 rfl 2 rfl ?_
        refine r_iload_n h dX12_report_42 rfl 3 rfl ?_
        obtain ⟨r7, s7, hq7, hf⟩ := ob_some hf
        refine r_callV1 h [.int (vI a1), .int (vI a2), .int (vI a3)] dX12_report_43 (fun hs => m_Mo_toldLength hw ht ra1 ra2 ra3 hs hq7) ml_X12_565 cv_Mo_toldLength rfl (co := 12) rfl (by decide) ht rC_86 ⟨rfl, rfl⟩ ⟨Nat.le_of_ble_eq_true rfl, Nat.le_of_ble_eq_true rfl⟩ ⟨Nat.le_of_ble_eq_true rfl, Nat.le_of_ble_eq_true rfl⟩ (Nat.le_of_ble_eq_true rfl) rfl (fun hr7 hs7 => ?_)
        obtain ⟨hi8, hf⟩ := oc_some hf
        refine r_iast h dX12_report_46 hq6.2 rC_131 (hs3.1 _ _) (N := 30) (by rw [rN_131]; rfl) (j := (gi s3 86 79).toNat) rfl hi8 hr7 ?_
        refine r_os hf (fun s9 hf => ?_)
        refine r_rS h (fun hs9 => ?_)
        refine r_aload_n h dX12_report_47 rfl 0 rfl ?_
        have hq10 := w_ref hw ht rC_86 (by decide) (k := 76) (by decide) rf_12_76
        refine g_X12_155 h dX12_report_48 ht rC_86 hq10.1 ?_
        refine r_aload_n h dX12_report_51 rfl 0 rfl ?_
        refine g_X12_463 h dX12_report_52 ht rC_86 ?_
        refine r_iload h dX12_report_55 4 rfl ?_
        obtain ⟨hi11, hf⟩ := oc_some hf
        refine r_iast h dX12_report_57 hq10.2 rC_132 (hs9.1 _ _) (N := 30) (by rw [rN_132]; rfl) (j := (gi s9 86 79).toNat) rfl hi11 ra4 ?_
        refine r_os hf (fun s12 hf => ?_)
        refine r_rS h (fun hs12 => ?_)
        refine r_aload_n h dX12_report_58 rfl 0 rfl ?_
        have hq13 := w_ref hw ht rC_86 (by decide) (k := 77) (by decide) rf_12_77
        refine g_X12_158 h dX12_report_59 ht rC_86 hq13.1 ?_
        refine r_aload_n h dX12_report_62 rfl 0 rfl ?_
        refine g_X12_463 h dX12_report_63 ht rC_86 ?_
        refine r_aload_n h dX12_report_66 rfl 0 rfl ?_
        refine g_X12_568 h dX12_report_67 ht rC_86 ?_
        obtain ⟨hi14, hf⟩ := oc_some hf
        refine r_iast h dX12_report_70 hq13.2 rC_133 (hs12.1 _ _) (N := 30) (by rw [rN_133]; rfl) (j := (gi s12 86 79).toNat) rfl hi14 (hs12.1 _ _) ?_
        refine r_os hf (fun s15 hf => ?_)
        refine r_rS h (fun hs15 => ?_)
        refine r_aload_n h dX12_report_71 rfl 0 rfl ?_
        have hq16 := w_ref hw ht rC_86 (by decide) (k := 78) (by decide) rf_12_78
        refine g_X12_161 h dX12_report_72 ht rC_86 hq16.1 ?_
        refine r_aload_n h dX12_report_75 rfl 0 rfl ?_
        refine g_X12_463 h dX12_report_76 ht rC_86 ?_
        refine r_iconst h dX12_report_79 ?_
        obtain ⟨hi17, hf⟩ := oc_some hf
        refine r_iast h dX12_report_80 hq16.2 rC_134 (hs15.1 _ _) (N := 30) (by rw [rN_134]; rfl) (j := (gi s15 86 79).toNat) rfl hi17 (rIc rfl) ?_
        refine r_os hf (fun s18 hf => ?_)
        refine r_rS h (fun hs18 => ?_)
        refine r_aload_n h dX12_report_81 rfl 0 rfl ?_
        refine r_dup h dX12_report_82 rfl ?_
        refine g_X12_463 h dX12_report_83 ht rC_86 ?_
        refine r_iconst h dX12_report_86 ?_
        refine r_iadd h dX12_report_87 ?_
        refine p_X12_463 h dX12_report_88 ht rC_86 (rI_iw _) ?_
        refine r_os hf (fun s19 hf => ?_)
        refine r_rS h (fun hs19 => ?_)
        refine r_aload_n h dX12_report_91 rfl 0 rfl ?_
        refine g_X12_463 h dX12_report_92 ht rC_86 ?_
        refine r_iconst h dX12_report_95 ?_
        refine r_isub h dX12_report_96 ?_
        exact r_ret1 hr dX12_report_97 (rI_iw _) hf
      · have hf := ite_nf hc5 hf
        refine r_iconst h dX12_report_29 ?_
        exact r_ret1 hr dX12_report_30 (rIc rfl) hf
set_option maxRecDepth 20000 in
theorem m_Mo_untell {l : Launch} {D : va_G} {cs : Nat → ClassId} {aS aV : Nat} {A : Nat → Prop} {ad : Nat → Nat} {n : Nat} {nl : Nat → Nat → Bool} {out : Int × SS} (hw : w_WH n nl) (ht : 86 < n) {a1 : Int} (ra1 : rI a1) {s0 : SS} (hs0 : rS s0) (hf : f_Mo_untell a1 s0 = some out) : w_MC l D cs aS aV A yX12_untell cX12_untell 2 2 rm_Mo_untell ad n nl [.ref (ad 86), .int (vI a1)] s0 (w_Po ad n nl out) := by
  refine w_MC_of (by decide +kernel) (by decide) hs0 (Nat.le_of_ble_eq_true rfl) (fun K h hr => ?_)
  refine r_lv (lv' := [(0, .ref (ad 86)), (1, .int (vI a1))]) rfl ?_
  unfold f_Mo_untell at hf
  refine r_rS h (fun hs0 => ?_)
  refine r_iload_n h dX12_untell_0 rfl 1 rfl ?_
  refine r_iconst h dX12_untell_1 ?_
  refine r_aload_n h dX12_untell_2 rfl 0 rfl ?_
  refine g_X12_463 h dX12_untell_3 ht rC_86 ?_
  refine r_iconst h dX12_untell_6 ?_
  refine r_isub h dX12_untell_7 ?_
  obtain ⟨r1, s1, hq1, hf⟩ := ob_some hf
  refine r_callS2 h [.int (vI a1), .int (vI 0), .int (vI (iw ((gi s0 86 79) - 1)))] dX12_untell_8 (fun hs => m_Mo_isIn hw ra1 (rIc rfl) (rI_iw _) hs hq1) ml_X12_400 cv_Mo_isIn rfl ⟨rfl, rfl⟩ ⟨Nat.le_of_ble_eq_true rfl, Nat.le_of_ble_eq_true rfl⟩ ⟨Nat.le_of_ble_eq_true rfl, Nat.le_of_ble_eq_true rfl⟩ (Nat.le_of_ble_eq_true rfl) rfl (fun hr1 hs1 => ?_)
  refine r_if_eq (tgt := 23) h dX12_untell_11 (by decide) (rI_b hr1) (fun hc2 => ?_) (fun hc2 => ?_)
  · have hf := ite_t hc2 hf
    refine r_iconst h dX12_untell_23 ?_
    exact r_ret2 hr dX12_untell_24 (Or.inl rfl) hf
  · have hf := ite_f hc2 hf
    refine r_aload_n h dX12_untell_14 rfl 0 rfl ?_
    have hq3 := w_ref hw ht rC_86 (by decide) (k := 78) (by decide) rf_12_78
    refine g_X12_161 h dX12_untell_15 ht rC_86 hq3.1 ?_
    refine r_iload_n h dX12_untell_18 rfl 1 rfl ?_
    obtain ⟨hi4, hf⟩ := oc_some hf
    refine r_iald h dX12_untell_19 hq3.2 rC_134 ra1 (N := 30) (by rw [rN_134]; rfl) (j := (a1).toNat) rfl hi4 ?_
    refine r_if_lt (tgt := 25) h dX12_untell_20 (by decide) (hs1.1 _ _) (fun hc5 => ?_) (fun hc5 => ?_)
    · have hf := ite_t hc5 hf
      refine r_aload_n h dX12_untell_25 rfl 0 rfl ?_
      have hq6 := w_ref hw ht rC_86 (by decide) (k := 78) (by decide) rf_12_78
      refine g_X12_161 h dX12_untell_26 ht rC_86 hq6.1 ?_
      refine r_iload_n h dX12_untell_29 rfl 1 rfl ?_
      refine r_aload_n h dX12_untell_30 rfl 0 rfl ?_
      refine g_X12_568 h dX12_untell_31 ht rC_86 ?_
      obtain ⟨hi7, hf⟩ := oc_some hf
      refine r_iast h dX12_untell_34 hq6.2 rC_134 ra1 (N := 30) (by rw [rN_134]; rfl) (j := (a1).toNat) rfl hi7 (hs1.1 _ _) ?_
      refine r_os hf (fun s8 hf => ?_)
      refine r_rS h (fun hs8 => ?_)
      refine r_iconst h dX12_untell_35 ?_
      exact r_ret2 hr dX12_untell_36 (Or.inr rfl) hf
    · have hf := ite_f hc5 hf
      refine r_iconst h dX12_untell_23 ?_
      exact r_ret2 hr dX12_untell_24 (Or.inl rfl) hf
set_option maxRecDepth 20000 in
theorem m_Mo_later {l : Launch} {D : va_G} {cs : Nat → ClassId} {aS aV : Nat} {A : Nat → Prop} {ad : Nat → Nat} {n : Nat} {nl : Nat → Nat → Bool} {out : Int × SS} (hw : w_WH n nl) (ht : 86 < n) {a1 : Int} (ra1 : rI a1) {s0 : SS} (hs0 : rS s0) (hf : f_Mo_later a1 s0 = some out) : w_MC l D cs aS aV A yX12_later cX12_later 2 1 rm_Mo_later ad n nl [.ref (ad 86), .int (vI a1)] s0 (w_Po ad n nl out) := by
  refine w_MC_of (by decide +kernel) (by decide) hs0 (Nat.le_of_ble_eq_true rfl) (fun K h hr => ?_)
  refine r_lv (lv' := [(0, .ref (ad 86)), (1, .int (vI a1))]) rfl ?_
  unfold f_Mo_later at hf
  refine r_rS h (fun hs0 => ?_)
  refine r_iload_n h dX12_later_0 rfl 1 rfl ?_
  refine r_iconst h dX12_later_1 ?_
  refine r_sipush h dX12_later_2 (by decide) ?_
  obtain ⟨r1, s1, hq1, hf⟩ := ob_some hf
  refine r_callS2 h [.int (vI a1), .int (vI 0), .int (vI 1000)] dX12_later_5 (fun hs => m_Mo_isIn hw ra1 (rIc rfl) (rIc rfl) hs hq1) ml_X12_400 cv_Mo_isIn rfl ⟨rfl, rfl⟩ ⟨Nat.le_of_ble_eq_true rfl, Nat.le_of_ble_eq_true rfl⟩ ⟨Nat.le_of_ble_eq_true rfl, Nat.le_of_ble_eq_true rfl⟩ (Nat.le_of_ble_eq_true rfl) rfl (fun hr1 hs1 => ?_)
  refine r_if_eq (tgt := 23) h dX12_later_8 (by decide) (rI_b hr1) (fun hc2 => ?_) (fun hc2 => ?_)
  · have hf := ite_t hc2 hf
    refine r_iconst h dX12_later_23 ?_
    exact r_ret1 hr dX12_later_24 (rIc rfl) hf
  · have hf := ite_f hc2 hf
    refine r_aload_n h dX12_later_11 rfl 0 rfl ?_
    refine g_X12_568 h dX12_later_12 ht rC_86 ?_
    refine r_iload_n h dX12_later_15 rfl 1 rfl ?_
    refine r_iadd h dX12_later_16 ?_
    refine r_ldcw (x := 100000) h dX12_later_17 (gt_in9 59 rfl rfl) rfl ?_
    refine r_icmp_le (tgt := 25) h dX12_later_20 (by decide) (rI_iw _) (rIc rfl) (fun hc3 => ?_) (fun hc3 => ?_)
    · have hf := ite_t hc3 hf
      refine r_aload_n h dX12_later_25 rfl 0 rfl ?_
      refine r_dup h dX12_later_26 rfl ?_
      refine g_X12_568 h dX12_later_27 ht rC_86 ?_
      refine r_iload_n h dX12_later_30 rfl 1 rfl ?_
      refine r_iadd h dX12_later_31 ?_
      refine p_X12_568 h dX12_later_32 ht rC_86 (rI_iw _) ?_
      refine r_os hf (fun s4 hf => ?_)
      refine r_rS h (fun hs4 => ?_)
      refine r_aload_n h dX12_later_35 rfl 0 rfl ?_
      refine g_X12_568 h dX12_later_36 ht rC_86 ?_
      exact r_ret1 hr dX12_later_39 (hs4.1 _ _) hf
    · have hf := ite_f hc3 hf
      refine r_iconst h dX12_later_23 ?_
      exact r_ret1 hr dX12_later_24 (rIc rfl) hf
set_option maxRecDepth 20000 in
theorem m_Mo_reported {l : Launch} {D : va_G} {cs : Nat → ClassId} {aS aV : Nat} {A : Nat → Prop} {ad : Nat → Nat} {n : Nat} {nl : Nat → Nat → Bool} {out : Int × SS} (hw : w_WH n nl) {a1 : Int} (ra1 : rI a1) {a2 : Int} (ra2 : rI a2) {s0 : SS} (hs0 : rS s0) (hf : f_Mo_reported a1 a2 s0 = some out) : w_MC l D cs aS aV A yX12_reported cX12_reported 2 1 rm_Mo_reported ad n nl [.int (vI a1), .int (vI a2)] s0 (w_Po ad n nl out) := by
  refine w_MC_of (by decide +kernel) (by decide) hs0 (Nat.le_of_ble_eq_true rfl) (fun K h hr => ?_)
  refine r_lv (lv' := [(0, .int (vI a1)), (1, .int (vI a2))]) rfl ?_
  unfold f_Mo_reported at hf
  refine r_rS h (fun hs0 => ?_)
  refine r_iload_n h dX12_reported_0 rfl 0 rfl ?_
  refine r_if_lt (tgt := 9) h dX12_reported_1 (by decide) ra1 (fun hc1 => ?_) (fun hc1 => ?_)
  · have hf := ite_t hc1 hf
    refine r_iconst h dX12_reported_9 ?_
    refine r_goto (tgt := 23) h dX12_reported_10 (by decide) ?_
    exact r_ret1 hr dX12_reported_23 (rIc rfl) hf
  · have hf := ite_f hc1 hf
    refine r_iload_n h dX12_reported_4 rfl 0 rfl ?_
    refine r_iload_n h dX12_reported_5 rfl 1 rfl ?_
    refine r_icmp_le (tgt := 13) h dX12_reported_6 (by decide) ra1 ra2 (fun hc2 => ?_) (fun hc2 => ?_)
    · have hf := ite_t hc2 hf
      refine r_iload_n h dX12_reported_13 rfl 0 rfl ?_
      refine r_iload_n h dX12_reported_14 rfl 1 rfl ?_
      refine r_icmp_ne (tgt := 22) h dX12_reported_15 (by decide) ra1 ra2 (fun hc3 => ?_) (fun hc3 => ?_)
      · have hf := ite_f hc3 hf
        refine r_iconst h dX12_reported_22 ?_
        exact r_ret1 hr dX12_reported_23 (rIc rfl) hf
      · have hf := ite_nf hc3 hf
        refine r_iconst h dX12_reported_18 ?_
        refine r_goto (tgt := 23) h dX12_reported_19 (by decide) ?_
        exact r_ret1 hr dX12_reported_23 (rIc rfl) hf
    · have hf := ite_f hc2 hf
      refine r_iconst h dX12_reported_9 ?_
      refine r_goto (tgt := 23) h dX12_reported_10 (by decide) ?_
      exact r_ret1 hr dX12_reported_23 (rIc rfl) hf
set_option maxRecDepth 20000 in
theorem b_Mo_isSo_39 {l : Launch} {D : va_G} {cs : Nat → ClassId} {aS aV : Nat} {A : Nat → Prop} {K : KT} {ad : Nat → Nat} {n : Nat} {nl : Nat → Nat → Bool} {out : Int × SS} (h : w_Cl l rm_Mo_isSo D cs aS aV A cX12_isSo 4 RX12 "isSo" K) (hr : w_Rt 2 cX12_isSo 0 0 (w_Po ad n nl out) K) (hw : w_WH n nl) (ht : 86 < n) (x1 : Int) (x2 : Int) (x3 : Int) (self2 : Int → SS → OO) (hself2 : ∀ (x3 : Int) (τ : SS), rI x3 → self2 x3 τ = some out → K ad n nl 0 0 2 [(0, .ref (ad 86)), (1, .int (vI x1)), (2, .int (vI x2)), (3, .int (vI x3))] [] τ) (s0 : SS) (rx1 : rI x1) (rx2 : rI x2) (rx3 : rI x3) (hf : j_Mo_isSo_39 self2 x1 x2 x3 s0 = some out) : K ad n nl 0 0 39 [(0, .ref (ad 86)), (1, .int (vI x1)), (2, .int (vI x2)), (3, .int (vI x3))] [] s0 := by
  unfold j_Mo_isSo_39 at hf
  refine r_rS h (fun hs0 => ?_)
  refine r_aload_n h dX12_isSo_39 rfl 0 rfl ?_
  have hq1 := w_ref hw ht rC_86 (by decide) (k := 75) (by decide) rf_12_75
  refine g_X12_152 h dX12_isSo_40 ht rC_86 hq1.1 ?_
  refine r_iload_n h dX12_isSo_43 rfl 3 rfl ?_
  obtain ⟨hi2, hf⟩ := oc_some hf
  refine r_iald h dX12_isSo_44 hq1.2 rC_131 rx3 (N := 30) (by rw [rN_131]; rfl) (j := (x3).toNat) rfl hi2 ?_
  refine r_iload_n h dX12_isSo_45 rfl 1 rfl ?_
  obtain ⟨r3, s3, hq3, hf⟩ := ob_some hf
  refine r_callS1 h [.int (vI (gi s0 131 ((x3).toNat))), .int (vI x1)] dX12_isSo_46 (fun hs => m_Mo_reported hw (hs0.1 _ _) rx1 hs hq3) ml_X12_572 cv_Mo_reported rfl ⟨rfl, rfl⟩ ⟨Nat.le_of_ble_eq_true rfl, Nat.le_of_ble_eq_true rfl⟩ ⟨Nat.le_of_ble_eq_true rfl, Nat.le_of_ble_eq_true rfl⟩ (Nat.le_of_ble_eq_true rfl) rfl (fun hr3 hs3 => ?_)
  refine r_aload_n h dX12_isSo_49 rfl 0 rfl ?_
  have hq4 := w_ref hw ht rC_86 (by decide) (k := 76) (by decide) rf_12_76
  refine g_X12_155 h dX12_isSo_50 ht rC_86 hq4.1 ?_
  refine r_iload_n h dX12_isSo_53 rfl 3 rfl ?_
  obtain ⟨hi5, hf⟩ := oc_some hf
  refine r_iald h dX12_isSo_54 hq4.2 rC_132 rx3 (N := 30) (by rw [rN_132]; rfl) (j := (x3).toNat) rfl hi5 ?_
  refine r_icmp_eq (tgt := 60) h dX12_isSo_55 (by decide) hr3 (hs3.1 _ _) (fun hc6 => ?_) (fun hc6 => ?_)
  · have hf := ite_t hc6 hf
    refine r_iinc h [(3, .int (vI (iw (x3 + 1)))), (0, .ref (ad 86)), (1, .int (vI x1)), (2, .int (vI x2))] dX12_isSo_60 3 rfl (by decide) rfl ?_
    refine r_goto (tgt := 2) h dX12_isSo_63 (by decide) ?_
    refine r_sub h [1, 2, 3, 0] rfl ?_
    exact hself2 (iw (x3 + 1)) s3 (rI_iw _) hf
  · have hf := ite_f hc6 hf
    refine r_iconst h dX12_isSo_58 ?_
    exact r_ret2 hr dX12_isSo_59 (Or.inl rfl) hf
set_option maxRecDepth 20000 in
theorem b_Mo_isSo_2 {l : Launch} {D : va_G} {cs : Nat → ClassId} {aS aV : Nat} {A : Nat → Prop} {K : KT} {ad : Nat → Nat} {n : Nat} {nl : Nat → Nat → Bool} {out : Int × SS} (h : w_Cl l rm_Mo_isSo D cs aS aV A cX12_isSo 4 RX12 "isSo" K) (hr : w_Rt 2 cX12_isSo 0 0 (w_Po ad n nl out) K) (hw : w_WH n nl) (ht : 86 < n) {y1 : Int} (ry1 : rI y1) {y2 : Int} (ry2 : rI y2) : ∀ (fu : Nat) (x3 : Int) (s0 : SS), rI x3 → l_Mo_isSo_2 y1 y2 fu x3 s0 = some out → K ad n nl 0 0 2 [(0, .ref (ad 86)), (1, .int (vI y1)), (2, .int (vI y2)), (3, .int (vI x3))] [] s0 := by
  intro fu
  induction fu with
  | zero =>
    intro x3 s0 rx3 hf
    rw [l_Mo_isSo_2] at hf
    cases hf
  | succ fu ih =>
    intro x3 s0 rx3 hf
    rw [l_Mo_isSo_2] at hf
    refine r_rS h (fun hs0 => ?_)
    refine r_iload_n h dX12_isSo_2 rfl 3 rfl ?_
    refine r_aload_n h dX12_isSo_3 rfl 0 rfl ?_
    refine g_X12_463 h dX12_isSo_4 ht rC_86 ?_
    refine r_icmp_ge (tgt := 66) h dX12_isSo_7 (by decide) rx3 (hs0.1 _ _) (fun hc1 => ?_) (fun hc1 => ?_)
    · have hf := ite_t hc1 hf
      refine r_iconst h dX12_isSo_66 ?_
      exact r_ret2 hr dX12_isSo_67 (Or.inr rfl) hf
    · have hf := ite_f hc1 hf
      refine r_aload_n h dX12_isSo_10 rfl 0 rfl ?_
      have hq2 := w_ref hw ht rC_86 (by decide) (k := 77) (by decide) rf_12_77
      refine g_X12_158 h dX12_isSo_11 ht rC_86 hq2.1 ?_
      refine r_iload_n h dX12_isSo_14 rfl 3 rfl ?_
      obtain ⟨hi3, hf⟩ := oc_some hf
      refine r_iald h dX12_isSo_15 hq2.2 rC_133 rx3 (N := 30) (by rw [rN_133]; rfl) (j := (x3).toNat) rfl hi3 ?_
      refine r_iload_n h dX12_isSo_16 rfl 2 rfl ?_
      refine r_icmp_gt (tgt := 60) h dX12_isSo_17 (by decide) (hs0.1 _ _) ry2 (fun hc4 => ?_) (fun hc4 => ?_)
      · have hf := ite_t hc4 hf
        refine r_iinc h [(3, .int (vI (iw (x3 + 1)))), (0, .ref (ad 86)), (1, .int (vI y1)), (2, .int (vI y2))] dX12_isSo_60 3 rfl (by decide) rfl ?_
        refine r_goto (tgt := 2) h dX12_isSo_63 (by decide) ?_
        refine r_sub h [1, 2, 3, 0] rfl ?_
        exact ih (iw (x3 + 1)) s0 (rI_iw _) hf
      · have hf := ite_f hc4 hf
        refine r_aload_n h dX12_isSo_20 rfl 0 rfl ?_
        have hq5 := w_ref hw ht rC_86 (by decide) (k := 78) (by decide) rf_12_78
        refine g_X12_161 h dX12_isSo_21 ht rC_86 hq5.1 ?_
        refine r_iload_n h dX12_isSo_24 rfl 3 rfl ?_
        obtain ⟨hi6, hf⟩ := oc_some hf
        refine r_iald h dX12_isSo_25 hq5.2 rC_134 rx3 (N := 30) (by rw [rN_134]; rfl) (j := (x3).toNat) rfl hi6 ?_
        refine r_if_lt (tgt := 39) h dX12_isSo_26 (by decide) (hs0.1 _ _) (fun hc7 => ?_) (fun hc7 => ?_)
        · have hf := ite_t hc7 hf
          exact b_Mo_isSo_39 h hr hw ht y1 y2 x3 (l_Mo_isSo_2 y1 y2 fu) ih s0 ry1 ry2 rx3 hf
        · have hf := ite_f hc7 hf
          refine r_aload_n h dX12_isSo_29 rfl 0 rfl ?_
          have hq8 := w_ref hw ht rC_86 (by decide) (k := 78) (by decide) rf_12_78
          refine g_X12_161 h dX12_isSo_30 ht rC_86 hq8.1 ?_
          refine r_iload_n h dX12_isSo_33 rfl 3 rfl ?_
          obtain ⟨hi9, hf⟩ := oc_some hf
          refine r_iald h dX12_isSo_34 hq8.2 rC_134 rx3 (N := 30) (by rw [rN_134]; rfl) (j := (x3).toNat) rfl hi9 ?_
          refine r_iload_n h dX12_isSo_35 rfl 2 rfl ?_
          refine r_icmp_le (tgt := 60) h dX12_isSo_36 (by decide) (hs0.1 _ _) ry2 (fun hc10 => ?_) (fun hc10 => ?_)
          · have hf := ite_t hc10 hf
            refine r_iinc h [(3, .int (vI (iw (x3 + 1)))), (0, .ref (ad 86)), (1, .int (vI y1)), (2, .int (vI y2))] dX12_isSo_60 3 rfl (by decide) rfl ?_
            refine r_goto (tgt := 2) h dX12_isSo_63 (by decide) ?_
            refine r_sub h [1, 2, 3, 0] rfl ?_
            exact ih (iw (x3 + 1)) s0 (rI_iw _) hf
          · have hf := ite_f hc10 hf
            exact b_Mo_isSo_39 h hr hw ht y1 y2 x3 (l_Mo_isSo_2 y1 y2 fu) ih s0 ry1 ry2 rx3 hf
set_option maxRecDepth 20000 in
theorem m_Mo_isSo {l : Launch} {D : va_G} {cs : Nat → ClassId} {aS aV : Nat} {A : Nat → Prop} {ad : Nat → Nat} {n : Nat} {nl : Nat → Nat → Bool} {out : Int × SS} (hw : w_WH n nl) (ht : 86 < n) {a1 : Int} (ra1 : rI a1) {a2 : Int} (ra2 : rI a2) {s0 : SS} (hs0 : rS s0) (hf : f_Mo_isSo a1 a2 s0 = some out) : w_MC l D cs aS aV A yX12_isSo cX12_isSo 4 2 rm_Mo_isSo ad n nl [.ref (ad 86), .int (vI a1), .int (vI a2)] s0 (w_Po ad n nl out) := by
  refine w_MC_of (by decide +kernel) (by decide) hs0 (Nat.le_of_ble_eq_true rfl) (fun K h hr => ?_)
  refine r_lv (lv' := [(0, .ref (ad 86)), (1, .int (vI a1)), (2, .int (vI a2))]) rfl ?_
  unfold f_Mo_isSo at hf
  refine r_rS h (fun hs0 => ?_)
  refine r_iconst h dX12_isSo_0 ?_
  refine r_istore_n h [(3, .int (vI 0)), (0, .ref (ad 86)), (1, .int (vI a1)), (2, .int (vI a2))] dX12_isSo_1 rfl (by decide) rfl ?_
  refine r_sub h [1, 2, 3, 0] rfl ?_
  exact b_Mo_isSo_2 h hr hw ht ra1 ra2 FU 0 s0 (rIc rfl) hf
set_option maxRecDepth 20000 in
theorem b_Mo_miles_5 {l : Launch} {D : va_G} {cs : Nat → ClassId} {aS aV : Nat} {A : Nat → Prop} {K : KT} {ad : Nat → Nat} {n : Nat} {nl : Nat → Nat → Bool} {out : Int × SS} (h : w_Cl l rm_Mo_miles D cs aS aV A cX12_miles 5 RX12 "miles" K) (hr : w_Rt 3 cX12_miles 0 0 (w_Po ad n nl out) K) (hw : w_WH n nl) (ht : 86 < n) {y1 : Int} (ry1 : rI y1) : ∀ (fu : Nat) (x2 : Int) (x4 : Int) (s0 : SS), rJ x2 → rI x4 → l_Mo_miles_5 y1 fu x2 x4 s0 = some out → K ad n nl 0 0 5 [(0, .ref (ad 86)), (1, .int (vI y1)), (2, .long (vJ x2)), (4, .int (vI x4))] [] s0 := by
  intro fu
  induction fu with
  | zero =>
    intro x2 x4 s0 rx2 rx4 hf
    rw [l_Mo_miles_5] at hf
    cases hf
  | succ fu ih =>
    intro x2 x4 s0 rx2 rx4 hf
    rw [l_Mo_miles_5] at hf
    refine r_rS h (fun hs0 => ?_)
    refine r_iload h dX12_miles_5 3 rfl ?_
    refine r_bipush h dX12_miles_7 (by decide) ?_
    refine r_icmp_gt (tgt := 37) h dX12_miles_9 (by decide) rx4 (rIc rfl) (fun hc1 => ?_) (fun hc1 => ?_)
    · have hf := ite_t hc1 hf
      refine r_lload_n h dX12_miles_37 rfl 2 rfl ?_
      exact r_ret3 hr dX12_miles_38 rx2 hf
    · have hf := ite_f hc1 hf
      refine r_aload_n h dX12_miles_12 rfl 0 rfl ?_
      refine r_iload h dX12_miles_13 3 rfl ?_
      refine r_iload_n h dX12_miles_15 rfl 1 rfl ?_
      obtain ⟨r2, s2, hq2, hf⟩ := ob_some hf
      refine r_callV2 h [.int (vI x4), .int (vI y1)] dX12_miles_16 (fun hs => m_Mo_isSo hw ht rx4 ry1 hs hq2) ml_X12_575 cv_Mo_isSo rfl (co := 12) rfl (by decide) ht rC_86 ⟨rfl, rfl⟩ ⟨Nat.le_of_ble_eq_true rfl, Nat.le_of_ble_eq_true rfl⟩ ⟨Nat.le_of_ble_eq_true rfl, Nat.le_of_ble_eq_true rfl⟩ (Nat.le_of_ble_eq_true rfl) rfl (fun hr2 hs2 => ?_)
      refine r_if_eq (tgt := 31) h dX12_miles_19 (by decide) (rI_b hr2) (fun hc3 => ?_) (fun hc3 => ?_)
      · have hf := ite_t hc3 hf
        refine r_iinc h [(4, .int (vI (iw (x4 + 1)))), (0, .ref (ad 86)), (1, .int (vI y1)), (2, .long (vJ x2))] dX12_miles_31 3 rfl (by decide) rfl ?_
        refine r_goto (tgt := 5) h dX12_miles_34 (by decide) ?_
        refine r_sub h [1, 2, 3, 0] rfl ?_
        exact ih x2 (iw (x4 + 1)) s2 rx2 (rI_iw _) hf
      · have hf := ite_f hc3 hf
        refine r_lload_n h dX12_miles_22 rfl 2 rfl ?_
        refine r_lconst (x := 1) h dX12_miles_23 (by decide) ?_
        refine r_iload h dX12_miles_24 3 rfl ?_
        refine r_iconst h dX12_miles_26 ?_
        refine r_isub h dX12_miles_27 ?_
        refine r_lshl h dX12_miles_28 ?_
        refine r_lor h dX12_miles_29 ?_
        refine r_olJ hf (rJ_yor _ _) (fun x4_ rx4_ hf => ?_)
        refine r_lstore_n h [(2, .long (vJ x4_)), (0, .ref (ad 86)), (1, .int (vI y1)), (4, .int (vI x4))] dX12_miles_30 rfl (by decide) rfl ?_
        refine r_iinc h [(4, .int (vI (iw (x4 + 1)))), (2, .long (vJ x4_)), (0, .ref (ad 86)), (1, .int (vI y1))] dX12_miles_31 3 rfl (by decide) rfl ?_
        refine r_goto (tgt := 5) h dX12_miles_34 (by decide) ?_
        refine r_sub h [2, 3, 1, 0] rfl ?_
        exact ih x4_ (iw (x4 + 1)) s2 rx4_ (rI_iw _) hf
set_option maxRecDepth 20000 in
theorem m_Mo_miles {l : Launch} {D : va_G} {cs : Nat → ClassId} {aS aV : Nat} {A : Nat → Prop} {ad : Nat → Nat} {n : Nat} {nl : Nat → Nat → Bool} {out : Int × SS} (hw : w_WH n nl) (ht : 86 < n) {a1 : Int} (ra1 : rI a1) {s0 : SS} (hs0 : rS s0) (hf : f_Mo_miles a1 s0 = some out) : w_MC l D cs aS aV A yX12_miles cX12_miles 5 3 rm_Mo_miles ad n nl [.ref (ad 86), .int (vI a1)] s0 (w_Po ad n nl out) := by
  refine w_MC_of (by decide +kernel) (by decide) hs0 (Nat.le_of_ble_eq_true rfl) (fun K h hr => ?_)
  refine r_lv (lv' := [(0, .ref (ad 86)), (1, .int (vI a1))]) rfl ?_
  unfold f_Mo_miles at hf
  refine r_rS h (fun hs0 => ?_)
  refine r_lconst (x := 0) h dX12_miles_0 (by decide) ?_
  refine r_lstore_n h [(2, .long (vJ 0)), (0, .ref (ad 86)), (1, .int (vI a1))] dX12_miles_1 rfl (by decide) rfl ?_
  refine r_iconst h dX12_miles_2 ?_
  refine r_istore h [(4, .int (vI 1)), (2, .long (vJ 0)), (0, .ref (ad 86)), (1, .int (vI a1))] dX12_miles_3 (by decide) rfl ?_
  refine r_sub h [2, 3, 1, 0] rfl ?_
  exact b_Mo_miles_5 h hr hw ht ra1 FU 0 1 s0 (rJc rfl) (rIc rfl) hf
set_option maxRecDepth 20000 in
theorem b_Mo_mostLeft_116 {l : Launch} {D : va_G} {cs : Nat → ClassId} {aS aV : Nat} {A : Nat → Prop} {K : KT} {ad : Nat → Nat} {n : Nat} {nl : Nat → Nat → Bool} {out : Int × SS} (h : w_Cl l rm_Mo_mostLeft D cs aS aV A cX12_mostLeft 6 RX12 "mostLeft" K) (hr : w_Rt 1 cX12_mostLeft 0 0 (w_Po ad n nl out) K) (hw : w_WH n nl) (ht : 86 < n) (z0 : Int) (s0 : SS) (rz0 : rI z0) (hf : j_Mo_mostLeft_116 z0 s0 = some out) : K ad n nl 0 0 116 [(0, .ref (ad 86))] [.int (vI z0)] s0 := by
  unfold j_Mo_mostLeft_116 at hf
  refine r_rS h (fun hs0 => ?_)
  refine r_istore h [(5, .int (vI z0)), (0, .ref (ad 86))] dX12_mostLeft_116 (by decide) rfl ?_
  refine r_aload_n h dX12_mostLeft_118 rfl 1 rfl ?_
  have hq1 := w_ref hw ht rC_86 (by decide) (k := 81) (by decide) rf_12_81
  refine g_X12_164 h dX12_mostLeft_119 ht rC_86 hq1.1 ?_
  refine r_iconst h dX12_mostLeft_122 ?_
  refine r_iald h dX12_mostLeft_123 hq1.2 rC_135 (rIc rfl) (N := 3) (by rw [rN_135]; rfl) (j := 2) rfl (by decide) ?_
  refine r_iload h dX12_mostLeft_124 0 rfl ?_
  refine r_icmp_le (tgt := 138) h dX12_mostLeft_126 (by decide) (hs0.1 _ _) rz0 (fun hc2 => ?_) (fun hc2 => ?_)
  · have hf := ite_t hc2 hf
    refine r_iload h dX12_mostLeft_138 0 rfl ?_
    exact r_ret1 hr dX12_mostLeft_140 rz0 hf
  · have hf := ite_f hc2 hf
    refine r_aload_n h dX12_mostLeft_129 rfl 1 rfl ?_
    have hq3 := w_ref hw ht rC_86 (by decide) (k := 81) (by decide) rf_12_81
    refine g_X12_164 h dX12_mostLeft_130 ht rC_86 hq3.1 ?_
    refine r_iconst h dX12_mostLeft_133 ?_
    refine r_iald h dX12_mostLeft_134 hq3.2 rC_135 (rIc rfl) (N := 3) (by rw [rN_135]; rfl) (j := 2) rfl (by decide) ?_
    refine r_goto (tgt := 140) h dX12_mostLeft_135 (by decide) ?_
    exact r_ret1 hr dX12_mostLeft_140 (hs0.1 _ _) hf
set_option maxRecDepth 20000 in
theorem b_Mo_mostLeft_44 {l : Launch} {D : va_G} {cs : Nat → ClassId} {aS aV : Nat} {A : Nat → Prop} {K : KT} {ad : Nat → Nat} {n : Nat} {nl : Nat → Nat → Bool} {out : Int × SS} (h : w_Cl l rm_Mo_mostLeft D cs aS aV A cX12_mostLeft 6 RX12 "mostLeft" K) (hr : w_Rt 1 cX12_mostLeft 0 0 (w_Po ad n nl out) K) (hw : w_WH n nl) (ht : 86 < n) {y2 : Int} (ry2 : rJ y2) {y4 : Int} (ry4 : rI y4) : ∀ (fu : Nat) (x5 : Int) (s0 : SS), rI x5 → l_Mo_mostLeft_44 y2 y4 fu x5 s0 = some out → K ad n nl 0 0 44 [(0, .ref (ad 86)), (2, .long (vJ y2)), (4, .int (vI y4)), (5, .int (vI x5))] [] s0 := by
  intro fu
  induction fu with
  | zero =>
    intro x5 s0 rx5 hf
    rw [l_Mo_mostLeft_44] at hf
    cases hf
  | succ fu ih =>
    intro x5 s0 rx5 hf
    rw [l_Mo_mostLeft_44] at hf
    refine r_rS h (fun hs0 => ?_)
    refine r_iload h dX12_mostLeft_44 3 rfl ?_
    refine r_bipush h dX12_mostLeft_46 (by decide) ?_
    refine r_icmp_gt (tgt := 86) h dX12_mostLeft_48 (by decide) rx5 (rIc rfl) (fun hc1 => ?_) (fun hc1 => ?_)
    · have hf := ite_t hc1 hf
      refine r_aload_n h dX12_mostLeft_86 rfl 0 rfl ?_
      have hq2 := w_ref hw ht rC_86 (by decide) (k := 81) (by decide) rf_12_81
      refine g_X12_164 h dX12_mostLeft_87 ht rC_86 hq2.1 ?_
      refine r_iconst h dX12_mostLeft_90 ?_
      refine r_iald h dX12_mostLeft_91 hq2.2 rC_135 (rIc rfl) (N := 3) (by rw [rN_135]; rfl) (j := 0) rfl (by decide) ?_
      refine r_aload_n h dX12_mostLeft_92 rfl 0 rfl ?_
      have hq3 := w_ref hw ht rC_86 (by decide) (k := 81) (by decide) rf_12_81
      refine g_X12_164 h dX12_mostLeft_93 ht rC_86 hq3.1 ?_
      refine r_iconst h dX12_mostLeft_96 ?_
      refine r_iald h dX12_mostLeft_97 hq3.2 rC_135 (rIc rfl) (N := 3) (by rw [rN_135]; rfl) (j := 1) rfl (by decide) ?_
      refine r_icmp_le (tgt := 110) h dX12_mostLeft_98 (by decide) (hs0.1 _ _) (hs0.1 _ _) (fun hc4 => ?_) (fun hc4 => ?_)
      · have hf := ite_t hc4 hf
        refine r_aload_n h dX12_mostLeft_110 rfl 0 rfl ?_
        have hq5 := w_ref hw ht rC_86 (by decide) (k := 81) (by decide) rf_12_81
        refine g_X12_164 h dX12_mostLeft_111 ht rC_86 hq5.1 ?_
        refine r_iconst h dX12_mostLeft_114 ?_
        refine r_iald h dX12_mostLeft_115 hq5.2 rC_135 (rIc rfl) (N := 3) (by rw [rN_135]; rfl) (j := 1) rfl (by decide) ?_
        refine r_sub h [0] rfl ?_
        exact b_Mo_mostLeft_116 h hr hw ht (gi s0 135 1) s0 (hs0.1 _ _) hf
      · have hf := ite_f hc4 hf
        refine r_aload_n h dX12_mostLeft_101 rfl 0 rfl ?_
        have hq6 := w_ref hw ht rC_86 (by decide) (k := 81) (by decide) rf_12_81
        refine g_X12_164 h dX12_mostLeft_102 ht rC_86 hq6.1 ?_
        refine r_iconst h dX12_mostLeft_105 ?_
        refine r_iald h dX12_mostLeft_106 hq6.2 rC_135 (rIc rfl) (N := 3) (by rw [rN_135]; rfl) (j := 0) rfl (by decide) ?_
        refine r_goto (tgt := 116) h dX12_mostLeft_107 (by decide) ?_
        refine r_sub h [0] rfl ?_
        exact b_Mo_mostLeft_116 h hr hw ht (gi s0 135 0) s0 (hs0.1 _ _) hf
    · have hf := ite_f hc1 hf
      refine r_lload_n h dX12_mostLeft_51 rfl 1 rfl ?_
      refine r_iload h dX12_mostLeft_52 3 rfl ?_
      refine r_iconst h dX12_mostLeft_54 ?_
      refine r_isub h dX12_mostLeft_55 ?_
      refine r_lshr h dX12_mostLeft_56 ?_
      refine r_lconst (x := 1) h dX12_mostLeft_57 (by decide) ?_
      refine r_land h dX12_mostLeft_58 ?_
      refine r_lconst (x := 1) h dX12_mostLeft_59 (by decide) ?_
      refine r_lcmp h dX12_mostLeft_60 (rJ_yand _ _) (rJc rfl) ?_
      refine r_if_ne (tgt := 80) h dX12_mostLeft_61 (by decide) (rI_ycmp _ _) (fun hc7 => ?_) (fun hc7 => ?_)
      · have hf := ite_f hc7 hf
        refine r_iinc h [(5, .int (vI (iw (x5 + 1)))), (0, .ref (ad 86)), (2, .long (vJ y2)), (4, .int (vI y4))] dX12_mostLeft_80 3 rfl (by decide) rfl ?_
        refine r_goto (tgt := 44) h dX12_mostLeft_83 (by decide) ?_
        refine r_sub h [1, 2, 3, 0] rfl ?_
        exact ih (iw (x5 + 1)) s0 (rI_iw _) hf
      · have hf := ite_nf hc7 hf
        refine r_aload_n h dX12_mostLeft_64 rfl 0 rfl ?_
        have hq8 := w_ref hw ht rC_86 (by decide) (k := 81) (by decide) rf_12_81
        refine g_X12_164 h dX12_mostLeft_65 ht rC_86 hq8.1 ?_
        refine r_iload h dX12_mostLeft_68 2 rfl ?_
        refine r_iload h dX12_mostLeft_70 3 rfl ?_
        obtain ⟨r9, s9, hq9, hf⟩ := ob_some hf
        refine r_callS1 h [.int (vI y4), .int (vI x5)] dX12_mostLeft_72 (fun hs => m_Mo_reported hw ry4 rx5 hs hq9) ml_X12_572 cv_Mo_reported rfl ⟨rfl, rfl⟩ ⟨Nat.le_of_ble_eq_true rfl, Nat.le_of_ble_eq_true rfl⟩ ⟨Nat.le_of_ble_eq_true rfl, Nat.le_of_ble_eq_true rfl⟩ (Nat.le_of_ble_eq_true rfl) rfl (fun hr9 hs9 => ?_)
        refine r_dup2a h dX12_mostLeft_75 rfl rfl ?_
        obtain ⟨hi10, hf⟩ := oc_some hf
        refine r_iald h dX12_mostLeft_76 hq8.2 rC_135 hr9 (N := 3) (by rw [rN_135]; rfl) (j := (r9).toNat) rfl hi10 ?_
        refine r_iconst h dX12_mostLeft_77 ?_
        refine r_iadd h dX12_mostLeft_78 ?_
        obtain ⟨hi11, hf⟩ := oc_some hf
        refine r_iast h dX12_mostLeft_79 hq8.2 rC_135 hr9 (N := 3) (by rw [rN_135]; rfl) (j := (r9).toNat) rfl hi11 (rI_iw _) ?_
        refine r_os hf (fun s12 hf => ?_)
        refine r_rS h (fun hs12 => ?_)
        refine r_iinc h [(5, .int (vI (iw (x5 + 1)))), (0, .ref (ad 86)), (2, .long (vJ y2)), (4, .int (vI y4))] dX12_mostLeft_80 3 rfl (by decide) rfl ?_
        refine r_goto (tgt := 44) h dX12_mostLeft_83 (by decide) ?_
        refine r_sub h [1, 2, 3, 0] rfl ?_
        exact ih (iw (x5 + 1)) s12 (rI_iw _) hf
set_option maxRecDepth 20000 in
theorem b_Mo_mostLeft_21 {l : Launch} {D : va_G} {cs : Nat → ClassId} {aS aV : Nat} {A : Nat → Prop} {K : KT} {ad : Nat → Nat} {n : Nat} {nl : Nat → Nat → Bool} {out : Int × SS} (h : w_Cl l rm_Mo_mostLeft D cs aS aV A cX12_mostLeft 6 RX12 "mostLeft" K) (hr : w_Rt 1 cX12_mostLeft 0 0 (w_Po ad n nl out) K) (hw : w_WH n nl) (ht : 86 < n) {y2 : Int} (ry2 : rJ y2) {y4 : Int} (ry4 : rI y4) : ∀ (fu : Nat) (x5 : Int) (s0 : SS), rI x5 → l_Mo_mostLeft_21 y2 y4 fu x5 s0 = some out → K ad n nl 0 0 21 [(0, .ref (ad 86)), (2, .long (vJ y2)), (4, .int (vI y4)), (5, .int (vI x5))] [] s0 := by
  intro fu
  induction fu with
  | zero =>
    intro x5 s0 rx5 hf
    rw [l_Mo_mostLeft_21] at hf
    cases hf
  | succ fu ih =>
    intro x5 s0 rx5 hf
    rw [l_Mo_mostLeft_21] at hf
    refine r_rS h (fun hs0 => ?_)
    refine r_iload h dX12_mostLeft_21 3 rfl ?_
    refine r_iconst h dX12_mostLeft_23 ?_
    refine r_icmp_ge (tgt := 41) h dX12_mostLeft_24 (by decide) rx5 (rIc rfl) (fun hc1 => ?_) (fun hc1 => ?_)
    · have hf := ite_t hc1 hf
      refine r_iconst h dX12_mostLeft_41 ?_
      refine r_istore h [(5, .int (vI 1)), (0, .ref (ad 86)), (2, .long (vJ y2)), (4, .int (vI y4))] dX12_mostLeft_42 (by decide) rfl ?_
      refine r_sub h [1, 2, 3, 0] rfl ?_
      exact b_Mo_mostLeft_44 h hr hw ht ry2 ry4 FU 1 s0 (rIc rfl) hf
    · have hf := ite_f hc1 hf
      refine r_aload_n h dX12_mostLeft_27 rfl 0 rfl ?_
      have hq2 := w_ref hw ht rC_86 (by decide) (k := 81) (by decide) rf_12_81
      refine g_X12_164 h dX12_mostLeft_28 ht rC_86 hq2.1 ?_
      refine r_iload h dX12_mostLeft_31 3 rfl ?_
      refine r_iconst h dX12_mostLeft_33 ?_
      obtain ⟨hi3, hf⟩ := oc_some hf
      refine r_iast h dX12_mostLeft_34 hq2.2 rC_135 rx5 (N := 3) (by rw [rN_135]; rfl) (j := (x5).toNat) rfl hi3 (rIc rfl) ?_
      refine r_os hf (fun s4 hf => ?_)
      refine r_rS h (fun hs4 => ?_)
      refine r_iinc h [(5, .int (vI (iw (x5 + 1)))), (0, .ref (ad 86)), (2, .long (vJ y2)), (4, .int (vI y4))] dX12_mostLeft_35 3 rfl (by decide) rfl ?_
      refine r_goto (tgt := 21) h dX12_mostLeft_38 (by decide) ?_
      refine r_sub h [1, 2, 3, 0] rfl ?_
      exact ih (iw (x5 + 1)) s4 (rI_iw _) hf
set_option maxRecDepth 20000 in
theorem m_Mo_mostLeft {l : Launch} {D : va_G} {cs : Nat → ClassId} {aS aV : Nat} {A : Nat → Prop} {ad : Nat → Nat} {n : Nat} {nl : Nat → Nat → Bool} {out : Int × SS} (hw : w_WH n nl) (ht : 86 < n) {a1 : Int} (ra1 : rI a1) {a2 : Int} (ra2 : rJ a2) {s0 : SS} (hs0 : rS s0) (hf : f_Mo_mostLeft a1 a2 s0 = some out) : w_MC l D cs aS aV A yX12_mostLeft cX12_mostLeft 6 1 rm_Mo_mostLeft ad n nl [.ref (ad 86), .int (vI a1), .long (vJ a2)] s0 (w_Po ad n nl out) := by
  refine w_MC_of (by decide +kernel) (by decide) hs0 (Nat.le_of_ble_eq_true rfl) (fun K h hr => ?_)
  refine r_lv (lv' := [(0, .ref (ad 86)), (1, .int (vI a1)), (2, .long (vJ a2))]) rfl ?_
  unfold f_Mo_mostLeft at hf
  refine r_rS h (fun hs0 => ?_)
  refine r_aload_n h dX12_mostLeft_0 rfl 0 rfl ?_
  refine r_iload_n h dX12_mostLeft_1 rfl 1 rfl ?_
  obtain ⟨r1, s1, hq1, hf⟩ := ob_some hf
  refine r_callS1 h [.int (vI a1)] dX12_mostLeft_2 (fun hs => m_Mo_firstOf hw ra1 hs hq1) ml_X12_506 cv_Mo_firstOf rfl ⟨rfl, rfl⟩ ⟨Nat.le_of_ble_eq_true rfl, Nat.le_of_ble_eq_true rfl⟩ ⟨Nat.le_of_ble_eq_true rfl, Nat.le_of_ble_eq_true rfl⟩ (Nat.le_of_ble_eq_true rfl) rfl (fun hr1 hs1 => ?_)
  refine r_iload_n h dX12_mostLeft_5 rfl 1 rfl ?_
  obtain ⟨r2, s2, hq2, hf⟩ := ob_some hf
  refine r_callS1 h [.int (vI a1)] dX12_mostLeft_6 (fun hs => m_Mo_otherOf hw ra1 hs hq2) ml_X12_509 cv_Mo_otherOf rfl ⟨rfl, rfl⟩ ⟨Nat.le_of_ble_eq_true rfl, Nat.le_of_ble_eq_true rfl⟩ ⟨Nat.le_of_ble_eq_true rfl, Nat.le_of_ble_eq_true rfl⟩ (Nat.le_of_ble_eq_true rfl) rfl (fun hr2 hs2 => ?_)
  refine r_iload_n h dX12_mostLeft_9 rfl 1 rfl ?_
  obtain ⟨r3, s3, hq3, hf⟩ := ob_some hf
  refine r_callS1 h [.int (vI a1)] dX12_mostLeft_10 (fun hs => m_Mo_matterOf hw ra1 hs hq3) ml_X12_512 cv_Mo_matterOf rfl ⟨rfl, rfl⟩ ⟨Nat.le_of_ble_eq_true rfl, Nat.le_of_ble_eq_true rfl⟩ ⟨Nat.le_of_ble_eq_true rfl, Nat.le_of_ble_eq_true rfl⟩ (Nat.le_of_ble_eq_true rfl) rfl (fun hr3 hs3 => ?_)
  obtain ⟨r4, s4, hq4, hf⟩ := ob_some hf
  refine r_callV1 h [.int (vI r1), .int (vI r2), .int (vI r3)] dX12_mostLeft_13 (fun hs => m_Mo_toldLength hw ht hr1 hr2 hr3 hs hq4) ml_X12_565 cv_Mo_toldLength rfl (co := 12) rfl (by decide) ht rC_86 ⟨rfl, rfl⟩ ⟨Nat.le_of_ble_eq_true rfl, Nat.le_of_ble_eq_true rfl⟩ ⟨Nat.le_of_ble_eq_true rfl, Nat.le_of_ble_eq_true rfl⟩ (Nat.le_of_ble_eq_true rfl) rfl (fun hr4 hs4 => ?_)
  refine r_istore h [(4, .int (vI r4)), (0, .ref (ad 86)), (1, .int (vI a1)), (2, .long (vJ a2))] dX12_mostLeft_16 (by decide) rfl ?_
  refine r_iconst h dX12_mostLeft_18 ?_
  refine r_istore h [(5, .int (vI 0)), (4, .int (vI r4)), (0, .ref (ad 86)), (1, .int (vI a1)), (2, .long (vJ a2))] dX12_mostLeft_19 (by decide) rfl ?_
  refine r_sub h [2, 4, 1, 0] rfl ?_
  exact b_Mo_mostLeft_21 h hr hw ht ra2 hr4 FU 0 s4 (rIc rfl) hf
set_option maxRecDepth 20000 in
theorem b_Mo_ask_77 {l : Launch} {D : va_G} {cs : Nat → ClassId} {aS aV : Nat} {A : Nat → Prop} {K : KT} {ad : Nat → Nat} {n : Nat} {nl : Nat → Nat → Bool} {out : Int × SS} (h : w_Cl l rm_Mo_ask D cs aS aV A cX12_ask 9 RX12 "ask" K) (hr : w_Rt 1 cX12_ask 0 0 (w_Po ad n nl out) K) (hw : w_WH n nl) (ht : 86 < n) (x1 : Int) (x3 : Int) (x7 : Int) (x8 : Int) (self32 : Int → Int → Int → SS → OO) (hself32 : ∀ (x5 : Int) (x6 : Int) (x7 : Int) (τ : SS), rI x5 → rI x6 → rI x7 → self32 x5 x6 x7 τ = some out → K ad n nl 0 0 32 [(0, .ref (ad 86)), (1, .int (vI x1)), (3, .long (vJ x3)), (5, .int (vI x5)), (6, .int (vI x6)), (7, .int (vI x7))] [] τ) (s0 : SS) (rx1 : rI x1) (rx3 : rJ x3) (rx7 : rI x7) (rx8 : rI x8) (hf : j_Mo_ask_77 self32 x1 x3 x7 x8 s0 = some out) : K ad n nl 0 0 77 [(0, .ref (ad 86)), (1, .int (vI x1)), (3, .long (vJ x3)), (7, .int (vI x7)), (8, .int (vI x8))] [] s0 := by
  unfold j_Mo_ask_77 at hf
  refine r_rS h (fun hs0 => ?_)
  refine r_iload h dX12_ask_77 3 rfl ?_
  refine r_istore h [(5, .int (vI x7)), (0, .ref (ad 86)), (1, .int (vI x1)), (3, .long (vJ x3)), (7, .int (vI x7)), (8, .int (vI x8))] dX12_ask_79 (by decide) rfl ?_
  refine r_iload h dX12_ask_81 5 rfl ?_
  refine r_istore h [(6, .int (vI x8)), (5, .int (vI x7)), (0, .ref (ad 86)), (1, .int (vI x1)), (3, .long (vJ x3)), (7, .int (vI x7)), (8, .int (vI x8))] dX12_ask_83 (by decide) rfl ?_
  refine r_iinc h [(7, .int (vI (iw (x7 + 1)))), (6, .int (vI x8)), (5, .int (vI x7)), (0, .ref (ad 86)), (1, .int (vI x1)), (3, .long (vJ x3)), (8, .int (vI x8))] dX12_ask_85 5 rfl (by decide) rfl ?_
  refine r_goto (tgt := 32) h dX12_ask_88 (by decide) ?_
  refine r_sub h [3, 4, 5, 2, 1, 0] rfl ?_
  exact hself32 x7 x8 (iw (x7 + 1)) s0 rx7 rx8 (rI_iw _) hf
set_option maxRecDepth 20000 in
theorem b_Mo_ask_32 {l : Launch} {D : va_G} {cs : Nat → ClassId} {aS aV : Nat} {A : Nat → Prop} {K : KT} {ad : Nat → Nat} {n : Nat} {nl : Nat → Nat → Bool} {out : Int × SS} (h : w_Cl l rm_Mo_ask D cs aS aV A cX12_ask 9 RX12 "ask" K) (hr : w_Rt 1 cX12_ask 0 0 (w_Po ad n nl out) K) (hw : w_WH n nl) (ht : 86 < n) {y1 : Int} (ry1 : rI y1) {y3 : Int} (ry3 : rJ y3) : ∀ (fu : Nat) (x5 : Int) (x6 : Int) (x7 : Int) (s0 : SS), rI x5 → rI x6 → rI x7 → l_Mo_ask_32 y1 y3 fu x5 x6 x7 s0 = some out → K ad n nl 0 0 32 [(0, .ref (ad 86)), (1, .int (vI y1)), (3, .long (vJ y3)), (5, .int (vI x5)), (6, .int (vI x6)), (7, .int (vI x7))] [] s0 := by
  intro fu
  induction fu with
  | zero =>
    intro x5 x6 x7 s0 rx5 rx6 rx7 hf
    rw [l_Mo_ask_32] at hf
    cases hf
  | succ fu ih =>
    intro x5 x6 x7 s0 rx5 rx6 rx7 hf
    rw [l_Mo_ask_32] at hf
    refine r_rS h (fun hs0 => ?_)
    refine r_iload h dX12_ask_32 5 rfl ?_
    refine r_aload_n h dX12_ask_34 rfl 0 rfl ?_
    obtain ⟨r1, s1, hq1, hf⟩ := ob_some hf
    refine r_callV1 h [] dX12_ask_35 (fun hs => m_Mo_coupleMany hw ht hs hq1) ml_X12_515 cv_Mo_coupleMany rfl (co := 12) rfl (by decide) ht rC_86 ⟨rfl, rfl⟩ ⟨Nat.le_of_ble_eq_true rfl, Nat.le_of_ble_eq_true rfl⟩ ⟨Nat.le_of_ble_eq_true rfl, Nat.le_of_ble_eq_true rfl⟩ (Nat.le_of_ble_eq_true rfl) rfl (fun hr1 hs1 => ?_)
    refine r_icmp_ge (tgt := 91) h dX12_ask_38 (by decide) rx7 hr1 (fun hc2 => ?_) (fun hc2 => ?_)
    · have hf := ite_t hc2 hf
      refine r_iload h dX12_ask_91 3 rfl ?_
      refine r_if_ge (tgt := 98) h dX12_ask_93 (by decide) rx5 (fun hc3 => ?_) (fun hc3 => ?_)
      · have hf := ite_t hc3 hf
        refine r_iload_n h dX12_ask_98 rfl 1 rfl ?_
        refine r_if_ne (tgt := 128) h dX12_ask_99 (by decide) ry1 (fun hc4 => ?_) (fun hc4 => ?_)
        · have hf := ite_f hc4 hf
          refine r_iload h dX12_ask_128 4 rfl ?_
          exact r_ret1 hr dX12_ask_130 rx6 hf
        · have hf := ite_nf hc4 hf
          refine r_bipush h dX12_ask_102 (by decide) ?_
          refine r_iload h dX12_ask_104 3 rfl ?_
          obtain ⟨r5, s5, hq5, hf⟩ := ob_some hf
          refine r_callS1 h [.int (vI x5)] dX12_ask_106 (fun hs => m_Mo_firstOf hw rx5 hs hq5) ml_X12_506 cv_Mo_firstOf rfl ⟨rfl, rfl⟩ ⟨Nat.le_of_ble_eq_true rfl, Nat.le_of_ble_eq_true rfl⟩ ⟨Nat.le_of_ble_eq_true rfl, Nat.le_of_ble_eq_true rfl⟩ (Nat.le_of_ble_eq_true rfl) rfl (fun hr5 hs5 => ?_)
          refine r_imul h dX12_ask_109 ?_
          refine r_bipush h dX12_ask_110 (by decide) ?_
          refine r_iload h dX12_ask_112 3 rfl ?_
          obtain ⟨r6, s6, hq6, hf⟩ := ob_some hf
          refine r_callS1 h [.int (vI x5)] dX12_ask_114 (fun hs => m_Mo_otherOf hw rx5 hs hq6) ml_X12_509 cv_Mo_otherOf rfl ⟨rfl, rfl⟩ ⟨Nat.le_of_ble_eq_true rfl, Nat.le_of_ble_eq_true rfl⟩ ⟨Nat.le_of_ble_eq_true rfl, Nat.le_of_ble_eq_true rfl⟩ (Nat.le_of_ble_eq_true rfl) rfl (fun hr6 hs6 => ?_)
          refine r_imul h dX12_ask_117 ?_
          refine r_iadd h dX12_ask_118 ?_
          refine r_iload h dX12_ask_119 3 rfl ?_
          obtain ⟨r7, s7, hq7, hf⟩ := ob_some hf
          refine r_callS1 h [.int (vI x5)] dX12_ask_121 (fun hs => m_Mo_matterOf hw rx5 hs hq7) ml_X12_512 cv_Mo_matterOf rfl ⟨rfl, rfl⟩ ⟨Nat.le_of_ble_eq_true rfl, Nat.le_of_ble_eq_true rfl⟩ ⟨Nat.le_of_ble_eq_true rfl, Nat.le_of_ble_eq_true rfl⟩ (Nat.le_of_ble_eq_true rfl) rfl (fun hr7 hs7 => ?_)
          refine r_iadd h dX12_ask_124 ?_
          refine r_goto (tgt := 130) h dX12_ask_125 (by decide) ?_
          exact r_ret1 hr dX12_ask_130 (rI_iw _) hf
      · have hf := ite_f hc3 hf
        refine r_iconst h dX12_ask_96 ?_
        exact r_ret1 hr dX12_ask_97 (rIc rfl) hf
    · have hf := ite_f hc2 hf
      refine r_aload_n h dX12_ask_41 rfl 0 rfl ?_
      refine r_iload h dX12_ask_42 5 rfl ?_
      obtain ⟨r8, s8, hq8, hf⟩ := ob_some hf
      refine r_callV2 h [.int (vI x7)] dX12_ask_44 (fun hs => m_Mo_canBe hw ht rx7 hs hq8) ml_X12_518 cv_Mo_canBe rfl (co := 12) rfl (by decide) ht rC_86 ⟨rfl, rfl⟩ ⟨Nat.le_of_ble_eq_true rfl, Nat.le_of_ble_eq_true rfl⟩ ⟨Nat.le_of_ble_eq_true rfl, Nat.le_of_ble_eq_true rfl⟩ (Nat.le_of_ble_eq_true rfl) rfl (fun hr8 hs8 => ?_)
      refine r_if_ne (tgt := 53) h dX12_ask_47 (by decide) (rI_b hr8) (fun hc9 => ?_) (fun hc9 => ?_)
      · have hf := ite_f hc9 hf
        refine r_aload_n h dX12_ask_53 rfl 0 rfl ?_
        refine r_iload h dX12_ask_54 5 rfl ?_
        refine r_lload_n h dX12_ask_56 rfl 2 rfl ?_
        obtain ⟨r10, s10, hq10, hf⟩ := ob_some hf
        refine r_callV1 h [.int (vI x7), .long (vJ y3)] dX12_ask_57 (fun hs => m_Mo_mostLeft hw ht rx7 ry3 hs hq10) ml_X12_582 cv_Mo_mostLeft rfl (co := 12) rfl (by decide) ht rC_86 ⟨rfl, rfl⟩ ⟨Nat.le_of_ble_eq_true rfl, Nat.le_of_ble_eq_true rfl⟩ ⟨Nat.le_of_ble_eq_true rfl, Nat.le_of_ble_eq_true rfl⟩ (Nat.le_of_ble_eq_true rfl) rfl (fun hr10 hs10 => ?_)
        refine r_istore h [(8, .int (vI r10)), (0, .ref (ad 86)), (1, .int (vI y1)), (3, .long (vJ y3)), (5, .int (vI x5)), (6, .int (vI x6)), (7, .int (vI x7))] dX12_ask_60 (by decide) rfl ?_
        refine r_iload h dX12_ask_62 4 rfl ?_
        refine r_if_lt (tgt := 77) h dX12_ask_64 (by decide) rx5 (fun hc11 => ?_) (fun hc11 => ?_)
        · have hf := ite_t hc11 hf
          refine r_sub h [1, 2, 3, 6, 0] rfl ?_
          exact b_Mo_ask_77 h hr hw ht y1 y3 x7 r10 (l_Mo_ask_32 y1 y3 fu) ih s10 ry1 ry3 rx7 hr10 hf
        · have hf := ite_f hc11 hf
          refine r_iload h dX12_ask_67 0 rfl ?_
          refine r_iload h dX12_ask_69 5 rfl ?_
          refine r_icmp_lt (tgt := 77) h dX12_ask_71 (by decide) hr10 rx6 (fun hc12 => ?_) (fun hc12 => ?_)
          · have hf := ite_t hc12 hf
            refine r_sub h [1, 2, 3, 6, 0] rfl ?_
            exact b_Mo_ask_77 h hr hw ht y1 y3 x7 r10 (l_Mo_ask_32 y1 y3 fu) ih s10 ry1 ry3 rx7 hr10 hf
          · have hf := ite_f hc12 hf
            refine r_goto (tgt := 85) h dX12_ask_74 (by decide) ?_
            refine r_iinc h [(7, .int (vI (iw (x7 + 1)))), (8, .int (vI r10)), (0, .ref (ad 86)), (1, .int (vI y1)), (3, .long (vJ y3)), (5, .int (vI x5)), (6, .int (vI x6))] dX12_ask_85 6 rfl (by decide) rfl ?_
            refine r_goto (tgt := 32) h dX12_ask_88 (by decide) ?_
            refine r_sub h [2, 3, 4, 5, 6, 0] rfl ?_
            exact ih x5 x6 (iw (x7 + 1)) s10 rx5 rx6 (rI_iw _) hf
      · have hf := ite_nf hc9 hf
        refine r_goto (tgt := 85) h dX12_ask_50 (by decide) ?_
        refine r_iinc h [(7, .int (vI (iw (x7 + 1)))), (0, .ref (ad 86)), (1, .int (vI y1)), (3, .long (vJ y3)), (5, .int (vI x5)), (6, .int (vI x6))] dX12_ask_85 5 rfl (by decide) rfl ?_
        refine r_goto (tgt := 32) h dX12_ask_88 (by decide) ?_
        refine r_sub h [1, 2, 3, 4, 5, 0] rfl ?_
        exact ih x5 x6 (iw (x7 + 1)) s8 rx5 rx6 (rI_iw _) hf
set_option maxRecDepth 20000 in
theorem m_Mo_ask {l : Launch} {D : va_G} {cs : Nat → ClassId} {aS aV : Nat} {A : Nat → Prop} {ad : Nat → Nat} {n : Nat} {nl : Nat → Nat → Bool} {out : Int × SS} (hw : w_WH n nl) (ht : 86 < n) {a1 : Int} (ra1 : rI a1) {a2 : Int} (ra2 : rI a2) {s0 : SS} (hs0 : rS s0) (hf : f_Mo_ask a1 a2 s0 = some out) : w_MC l D cs aS aV A yX12_ask cX12_ask 9 1 rm_Mo_ask ad n nl [.ref (ad 86), .int (vI a1), .int (vI a2)] s0 (w_Po ad n nl out) := by
  refine w_MC_of (by decide +kernel) (by decide) hs0 (Nat.le_of_ble_eq_true rfl) (fun K h hr => ?_)
  refine r_lv (lv' := [(0, .ref (ad 86)), (1, .int (vI a1)), (2, .int (vI a2))]) rfl ?_
  unfold f_Mo_ask at hf
  refine r_rS h (fun hs0 => ?_)
  refine r_aload_n h dX12_ask_0 rfl 0 rfl ?_
  refine r_iload_n h dX12_ask_1 rfl 2 rfl ?_
  obtain ⟨r1, s1, hq1, hf⟩ := ob_some hf
  refine r_callV3 h [.int (vI a2)] dX12_ask_2 (fun hs => m_Mo_miles hw ht ra2 hs hq1) ml_X12_579 cv_Mo_miles rfl (co := 12) rfl (by decide) ht rC_86 ⟨rfl, rfl⟩ ⟨Nat.le_of_ble_eq_true rfl, Nat.le_of_ble_eq_true rfl⟩ ⟨Nat.le_of_ble_eq_true rfl, Nat.le_of_ble_eq_true rfl⟩ (Nat.le_of_ble_eq_true rfl) rfl (fun hr1 hs1 => ?_)
  refine r_lstore_n h [(3, .long (vJ r1)), (0, .ref (ad 86)), (1, .int (vI a1)), (2, .int (vI a2))] dX12_ask_5 rfl (by decide) rfl ?_
  refine r_iload_n h dX12_ask_6 rfl 2 rfl ?_
  refine r_iconst h dX12_ask_7 ?_
  refine r_iconst h dX12_ask_8 ?_
  obtain ⟨r2, s2, hq2, hf⟩ := ob_some hf
  refine r_callS2 h [.int (vI a1), .int (vI 0), .int (vI 1)] dX12_ask_9 (fun hs => m_Mo_isIn hw ra1 (rIc rfl) (rIc rfl) hs hq2) ml_X12_400 cv_Mo_isIn rfl ⟨rfl, rfl⟩ ⟨Nat.le_of_ble_eq_true rfl, Nat.le_of_ble_eq_true rfl⟩ ⟨Nat.le_of_ble_eq_true rfl, Nat.le_of_ble_eq_true rfl⟩ (Nat.le_of_ble_eq_true rfl) rfl (fun hr2 hs2 => ?_)
  refine r_if_eq (tgt := 21) h dX12_ask_12 (by decide) (rI_b hr2) (fun hc3 => ?_) (fun hc3 => ?_)
  · have hf := ite_t hc3 hf
    refine r_iconst h dX12_ask_21 ?_
    exact r_ret1 hr dX12_ask_22 (rIc rfl) hf
  · have hf := ite_f hc3 hf
    refine r_lload_n h dX12_ask_15 rfl 0 rfl ?_
    refine r_lconst (x := 0) h dX12_ask_16 (by decide) ?_
    refine r_lcmp h dX12_ask_17 hr1 (rJc rfl) ?_
    refine r_if_ne (tgt := 23) h dX12_ask_18 (by decide) (rI_ycmp _ _) (fun hc4 => ?_) (fun hc4 => ?_)
    · have hf := ite_f hc4 hf
      refine r_iconst h dX12_ask_23 ?_
      refine r_istore h [(5, .int (vI (-1))), (3, .long (vJ r1)), (0, .ref (ad 86)), (1, .int (vI a1)), (2, .int (vI a2))] dX12_ask_24 (by decide) rfl ?_
      refine r_iconst h dX12_ask_26 ?_
      refine r_istore h [(6, .int (vI 0)), (5, .int (vI (-1))), (3, .long (vJ r1)), (0, .ref (ad 86)), (1, .int (vI a1)), (2, .int (vI a2))] dX12_ask_27 (by decide) rfl ?_
      refine r_iconst h dX12_ask_29 ?_
      refine r_istore h [(7, .int (vI 0)), (6, .int (vI 0)), (5, .int (vI (-1))), (3, .long (vJ r1)), (0, .ref (ad 86)), (1, .int (vI a1)), (2, .int (vI a2))] dX12_ask_30 (by decide) rfl ?_
      refine r_sub h [4, 5, 3, 2, 1, 0] rfl ?_
      exact b_Mo_ask_32 h hr hw ht ra1 hr1 FU (-1) 0 0 s2 (rIc rfl) (rIc rfl) (rIc rfl) hf
    · have hf := ite_nf hc4 hf
      refine r_iconst h dX12_ask_21 ?_
      exact r_ret1 hr dX12_ask_22 (rIc rfl) hf
set_option maxRecDepth 20000 in
theorem m_Mo_wordsInAll {l : Launch} {D : va_G} {cs : Nat → ClassId} {aS aV : Nat} {A : Nat → Prop} {ad : Nat → Nat} {n : Nat} {nl : Nat → Nat → Bool} {out : Int × SS} (hw : w_WH n nl) (ht : 86 < n) {s0 : SS} (hs0 : rS s0) (hf : f_Mo_wordsInAll s0 = some out) : w_MC l D cs aS aV A yX12_wordsInAll cX12_wordsInAll 1 1 rm_Mo_wordsInAll ad n nl [.ref (ad 86)] s0 (w_Po ad n nl out) := by
  refine w_MC_of (by decide +kernel) (by decide) hs0 (Nat.le_of_ble_eq_true rfl) (fun K h hr => ?_)
  refine r_lv (lv' := [(0, .ref (ad 86))]) rfl ?_
  unfold f_Mo_wordsInAll at hf
  refine r_rS h (fun hs0 => ?_)
  refine r_aload_n h dX12_wordsInAll_0 rfl 0 rfl ?_
  obtain ⟨r1, s1, hq1, hf⟩ := ob_some hf
  refine r_callV2 h [] dX12_wordsInAll_1 (fun hs => m_Mo_doWalk hw ht hs hq1) ml_X12_475 cv_Mo_doWalk rfl (co := 12) rfl (by decide) ht rC_86 ⟨rfl, rfl⟩ ⟨Nat.le_of_ble_eq_true rfl, Nat.le_of_ble_eq_true rfl⟩ ⟨Nat.le_of_ble_eq_true rfl, Nat.le_of_ble_eq_true rfl⟩ (Nat.le_of_ble_eq_true rfl) rfl (fun hr1 hs1 => ?_)
  refine r_if_eq (tgt := 17) h dX12_wordsInAll_4 (by decide) (rI_b hr1) (fun hc2 => ?_) (fun hc2 => ?_)
  · have hf := ite_t hc2 hf
    refine r_iconst h dX12_wordsInAll_17 ?_
    exact r_ret1 hr dX12_wordsInAll_18 (rIc rfl) hf
  · have hf := ite_f hc2 hf
    refine r_aload_n h dX12_wordsInAll_7 rfl 0 rfl ?_
    have hq3 := w_ref hw ht rC_86 (by decide) (k := 52) (by decide) rf_12_52
    refine g_X12_110 h dX12_wordsInAll_8 ht rC_86 hq3.1 ?_
    refine r_bipush h dX12_wordsInAll_11 (by decide) ?_
    refine r_iald h dX12_wordsInAll_13 hq3.2 rC_118 (rIc rfl) (N := 44) (by rw [rN_118]; rfl) (j := 19) rfl (by decide) ?_
    refine r_goto (tgt := 18) h dX12_wordsInAll_14 (by decide) ?_
    exact r_ret1 hr dX12_wordsInAll_18 (hs1.1 _ _) hf
set_option maxRecDepth 20000 in
theorem b_Mo_image_13 {l : Launch} {D : va_G} {cs : Nat → ClassId} {aS aV : Nat} {A : Nat → Prop} {K : KT} {ad : Nat → Nat} {n : Nat} {nl : Nat → Nat → Bool} {out : Int × SS} (h : w_Cl l rm_Mo_image D cs aS aV A cX12_image 3 RX12 "image" K) (hr : w_Rt 1 cX12_image 0 0 (w_Po ad n nl out) K) (hw : w_WH n nl) (ht : 86 < n) {y1 : Int} (ry1 : rI y1) : ∀ (fu : Nat) (x2 : Int) (s0 : SS), rI x2 → l_Mo_image_13 y1 fu x2 s0 = some out → K ad n nl 0 0 13 [(0, .ref (ad 86)), (1, .int (vI y1)), (2, .int (vI x2))] [] s0 := by
  intro fu
  induction fu with
  | zero =>
    intro x2 s0 rx2 hf
    rw [l_Mo_image_13] at hf
    cases hf
  | succ fu ih =>
    intro x2 s0 rx2 hf
    rw [l_Mo_image_13] at hf
    refine r_rS h (fun hs0 => ?_)
    refine r_iload_n h dX12_image_13 rfl 2 rfl ?_
    refine r_bipush h dX12_image_14 (by decide) ?_
    refine r_icmp_ge (tgt := 42) h dX12_image_16 (by decide) rx2 (rIc rfl) (fun hc1 => ?_) (fun hc1 => ?_)
    · have hf := ite_t hc1 hf
      refine r_aload_n h dX12_image_42 rfl 0 rfl ?_
      have hq2 := w_ref hw ht rC_86 (by decide) (k := 83) (by decide) rf_12_83
      refine g_X12_170 h dX12_image_43 ht rC_86 hq2.1 ?_
      refine r_iload_n h dX12_image_46 rfl 1 rfl ?_
      refine r_iconst h dX12_image_47 ?_
      obtain ⟨hi3, hf⟩ := oc_some hf
      refine r_zast h dX12_image_48 hq2.2 rC_137 ry1 (N := 3) (by rw [rN_137]; rfl) (j := (y1).toNat) rfl hi3 (Or.inr rfl) ?_
      refine r_os hf (fun s4 hf => ?_)
      refine r_rS h (fun hs4 => ?_)
      refine r_aload_n h dX12_image_49 rfl 0 rfl ?_
      obtain ⟨r5, s5, hq5, hf⟩ := ob_some hf
      refine r_callV1 h [] dX12_image_50 (fun hs => m_Mo_wordsInAll hw ht hs hq5) ml_X12_586 cv_Mo_wordsInAll rfl (co := 12) rfl (by decide) ht rC_86 ⟨rfl, rfl⟩ ⟨Nat.le_of_ble_eq_true rfl, Nat.le_of_ble_eq_true rfl⟩ ⟨Nat.le_of_ble_eq_true rfl, Nat.le_of_ble_eq_true rfl⟩ (Nat.le_of_ble_eq_true rfl) rfl (fun hr5 hs5 => ?_)
      exact r_ret1 hr dX12_image_53 hr5 hf
    · have hf := ite_f hc1 hf
      refine r_aload_n h dX12_image_19 rfl 0 rfl ?_
      have hq6 := w_ref hw ht rC_86 (by decide) (k := 82) (by decide) rf_12_82
      refine g_X12_167 h dX12_image_20 ht rC_86 hq6.1 ?_
      refine r_bipush h dX12_image_23 (by decide) ?_
      refine r_iload_n h dX12_image_25 rfl 1 rfl ?_
      refine r_imul h dX12_image_26 ?_
      refine r_iload_n h dX12_image_27 rfl 2 rfl ?_
      refine r_iadd h dX12_image_28 ?_
      refine r_aload_n h dX12_image_29 rfl 0 rfl ?_
      have hq7 := w_ref hw ht rC_86 (by decide) (k := 52) (by decide) rf_12_52
      refine g_X12_110 h dX12_image_30 ht rC_86 hq7.1 ?_
      refine r_iload_n h dX12_image_33 rfl 2 rfl ?_
      obtain ⟨hi8, hf⟩ := oc_some hf
      refine r_iald h dX12_image_34 hq7.2 rC_118 rx2 (N := 44) (by rw [rN_118]; rfl) (j := (x2).toNat) rfl hi8 ?_
      obtain ⟨hi9, hf⟩ := oc_some hf
      refine r_iast h dX12_image_35 hq6.2 rC_136 (rI_iw _) (N := 132) (by rw [rN_136]; rfl) (j := (iw ((iw (44 * y1)) + x2)).toNat) rfl hi9 (hs0.1 _ _) ?_
      refine r_os hf (fun s10 hf => ?_)
      refine r_rS h (fun hs10 => ?_)
      refine r_iinc h [(2, .int (vI (iw (x2 + 1)))), (0, .ref (ad 86)), (1, .int (vI y1))] dX12_image_36 2 rfl (by decide) rfl ?_
      refine r_goto (tgt := 13) h dX12_image_39 (by decide) ?_
      refine r_sub h [1, 2, 0] rfl ?_
      exact ih (iw (x2 + 1)) s10 (rI_iw _) hf
set_option maxRecDepth 20000 in
theorem m_Mo_image {l : Launch} {D : va_G} {cs : Nat → ClassId} {aS aV : Nat} {A : Nat → Prop} {ad : Nat → Nat} {n : Nat} {nl : Nat → Nat → Bool} {out : Int × SS} (hw : w_WH n nl) (ht : 86 < n) {a1 : Int} (ra1 : rI a1) {s0 : SS} (hs0 : rS s0) (hf : f_Mo_image a1 s0 = some out) : w_MC l D cs aS aV A yX12_image cX12_image 3 1 rm_Mo_image ad n nl [.ref (ad 86), .int (vI a1)] s0 (w_Po ad n nl out) := by
  refine w_MC_of (by decide +kernel) (by decide) hs0 (Nat.le_of_ble_eq_true rfl) (fun K h hr => ?_)
  refine r_lv (lv' := [(0, .ref (ad 86)), (1, .int (vI a1))]) rfl ?_
  unfold f_Mo_image at hf
  refine r_rS h (fun hs0 => ?_)
  refine r_iload_n h dX12_image_0 rfl 1 rfl ?_
  refine r_iconst h dX12_image_1 ?_
  refine r_iconst h dX12_image_2 ?_
  obtain ⟨r1, s1, hq1, hf⟩ := ob_some hf
  refine r_callS2 h [.int (vI a1), .int (vI 0), .int (vI 2)] dX12_image_3 (fun hs => m_Mo_isIn hw ra1 (rIc rfl) (rIc rfl) hs hq1) ml_X12_400 cv_Mo_isIn rfl ⟨rfl, rfl⟩ ⟨Nat.le_of_ble_eq_true rfl, Nat.le_of_ble_eq_true rfl⟩ ⟨Nat.le_of_ble_eq_true rfl, Nat.le_of_ble_eq_true rfl⟩ (Nat.le_of_ble_eq_true rfl) rfl (fun hr1 hs1 => ?_)
  refine r_if_ne (tgt := 11) h dX12_image_6 (by decide) (rI_b hr1) (fun hc2 => ?_) (fun hc2 => ?_)
  · have hf := ite_f hc2 hf
    refine r_iconst h dX12_image_11 ?_
    refine r_istore_n h [(2, .int (vI 0)), (0, .ref (ad 86)), (1, .int (vI a1))] dX12_image_12 rfl (by decide) rfl ?_
    refine r_sub h [1, 2, 0] rfl ?_
    exact b_Mo_image_13 h hr hw ht ra1 FU 0 s1 (rIc rfl) hf
  · have hf := ite_nf hc2 hf
    refine r_iconst h dX12_image_9 ?_
    exact r_ret1 hr dX12_image_10 (rIc rfl) hf
set_option maxRecDepth 20000 in
theorem b_Mo_back_22 {l : Launch} {D : va_G} {cs : Nat → ClassId} {aS aV : Nat} {A : Nat → Prop} {K : KT} {ad : Nat → Nat} {n : Nat} {nl : Nat → Nat → Bool} {out : Int × SS} (h : w_Cl l rm_Mo_back D cs aS aV A cX12_back 3 RX12 "back" K) (hr : w_Rt 1 cX12_back 0 0 (w_Po ad n nl out) K) (hw : w_WH n nl) (ht : 86 < n) {y1 : Int} (ry1 : rI y1) : ∀ (fu : Nat) (x2 : Int) (s0 : SS), rI x2 → l_Mo_back_22 y1 fu x2 s0 = some out → K ad n nl 0 0 22 [(0, .ref (ad 86)), (1, .int (vI y1)), (2, .int (vI x2))] [] s0 := by
  intro fu
  induction fu with
  | zero =>
    intro x2 s0 rx2 hf
    rw [l_Mo_back_22] at hf
    cases hf
  | succ fu ih =>
    intro x2 s0 rx2 hf
    rw [l_Mo_back_22] at hf
    refine r_rS h (fun hs0 => ?_)
    refine r_iload_n h dX12_back_22 rfl 2 rfl ?_
    refine r_bipush h dX12_back_23 (by decide) ?_
    refine r_icmp_ge (tgt := 51) h dX12_back_25 (by decide) rx2 (rIc rfl) (fun hc1 => ?_) (fun hc1 => ?_)
    · have hf := ite_t hc1 hf
      refine r_aload_n h dX12_back_51 rfl 0 rfl ?_
      refine r_iconst h dX12_back_52 ?_
      refine p_X12_454 h dX12_back_53 ht rC_86 (rIc rfl) ?_
      refine r_os hf (fun s2 hf => ?_)
      refine r_rS h (fun hs2 => ?_)
      refine r_aload_n h dX12_back_56 rfl 0 rfl ?_
      refine r_iconst h dX12_back_57 ?_
      refine p_X12_457 h dX12_back_58 ht rC_86 (rIc rfl) ?_
      refine r_os hf (fun s3 hf => ?_)
      refine r_rS h (fun hs3 => ?_)
      refine r_aload_n h dX12_back_61 rfl 0 rfl ?_
      obtain ⟨r4, s4, hq4, hf⟩ := ob_some hf
      refine r_callV1 h [] dX12_back_62 (fun hs => m_Mo_wordsInAll hw ht hs hq4) ml_X12_586 cv_Mo_wordsInAll rfl (co := 12) rfl (by decide) ht rC_86 ⟨rfl, rfl⟩ ⟨Nat.le_of_ble_eq_true rfl, Nat.le_of_ble_eq_true rfl⟩ ⟨Nat.le_of_ble_eq_true rfl, Nat.le_of_ble_eq_true rfl⟩ (Nat.le_of_ble_eq_true rfl) rfl (fun hr4 hs4 => ?_)
      exact r_ret1 hr dX12_back_65 hr4 hf
    · have hf := ite_f hc1 hf
      refine r_aload_n h dX12_back_28 rfl 0 rfl ?_
      have hq5 := w_ref hw ht rC_86 (by decide) (k := 52) (by decide) rf_12_52
      refine g_X12_110 h dX12_back_29 ht rC_86 hq5.1 ?_
      refine r_iload_n h dX12_back_32 rfl 2 rfl ?_
      refine r_aload_n h dX12_back_33 rfl 0 rfl ?_
      have hq6 := w_ref hw ht rC_86 (by decide) (k := 82) (by decide) rf_12_82
      refine g_X12_167 h dX12_back_34 ht rC_86 hq6.1 ?_
      refine r_bipush h dX12_back_37 (by decide) ?_
      refine r_iload_n h dX12_back_39 rfl 1 rfl ?_
      refine r_imul h dX12_back_40 ?_
      refine r_iload_n h dX12_back_41 rfl 2 rfl ?_
      refine r_iadd h dX12_back_42 ?_
      obtain ⟨hi7, hf⟩ := oc_some hf
      refine r_iald h dX12_back_43 hq6.2 rC_136 (rI_iw _) (N := 132) (by rw [rN_136]; rfl) (j := (iw ((iw (44 * y1)) + x2)).toNat) rfl hi7 ?_
      obtain ⟨hi8, hf⟩ := oc_some hf
      refine r_iast h dX12_back_44 hq5.2 rC_118 rx2 (N := 44) (by rw [rN_118]; rfl) (j := (x2).toNat) rfl hi8 (hs0.1 _ _) ?_
      refine r_os hf (fun s9 hf => ?_)
      refine r_rS h (fun hs9 => ?_)
      refine r_iinc h [(2, .int (vI (iw (x2 + 1)))), (0, .ref (ad 86)), (1, .int (vI y1))] dX12_back_45 2 rfl (by decide) rfl ?_
      refine r_goto (tgt := 22) h dX12_back_48 (by decide) ?_
      refine r_sub h [1, 2, 0] rfl ?_
      exact ih (iw (x2 + 1)) s9 (rI_iw _) hf
set_option maxRecDepth 20000 in
theorem m_Mo_back {l : Launch} {D : va_G} {cs : Nat → ClassId} {aS aV : Nat} {A : Nat → Prop} {ad : Nat → Nat} {n : Nat} {nl : Nat → Nat → Bool} {out : Int × SS} (hw : w_WH n nl) (ht : 86 < n) {a1 : Int} (ra1 : rI a1) {s0 : SS} (hs0 : rS s0) (hf : f_Mo_back a1 s0 = some out) : w_MC l D cs aS aV A yX12_back cX12_back 3 1 rm_Mo_back ad n nl [.ref (ad 86), .int (vI a1)] s0 (w_Po ad n nl out) := by
  refine w_MC_of (by decide +kernel) (by decide) hs0 (Nat.le_of_ble_eq_true rfl) (fun K h hr => ?_)
  refine r_lv (lv' := [(0, .ref (ad 86)), (1, .int (vI a1))]) rfl ?_
  unfold f_Mo_back at hf
  refine r_rS h (fun hs0 => ?_)
  refine r_iload_n h dX12_back_0 rfl 1 rfl ?_
  refine r_iconst h dX12_back_1 ?_
  refine r_iconst h dX12_back_2 ?_
  obtain ⟨r1, s1, hq1, hf⟩ := ob_some hf
  refine r_callS2 h [.int (vI a1), .int (vI 0), .int (vI 2)] dX12_back_3 (fun hs => m_Mo_isIn hw ra1 (rIc rfl) (rIc rfl) hs hq1) ml_X12_400 cv_Mo_isIn rfl ⟨rfl, rfl⟩ ⟨Nat.le_of_ble_eq_true rfl, Nat.le_of_ble_eq_true rfl⟩ ⟨Nat.le_of_ble_eq_true rfl, Nat.le_of_ble_eq_true rfl⟩ (Nat.le_of_ble_eq_true rfl) rfl (fun hr1 hs1 => ?_)
  refine r_if_eq (tgt := 18) h dX12_back_6 (by decide) (rI_b hr1) (fun hc2 => ?_) (fun hc2 => ?_)
  · have hf := ite_t hc2 hf
    refine r_iconst h dX12_back_18 ?_
    exact r_ret1 hr dX12_back_19 (rIc rfl) hf
  · have hf := ite_f hc2 hf
    refine r_aload_n h dX12_back_9 rfl 0 rfl ?_
    have hq3 := w_ref hw ht rC_86 (by decide) (k := 83) (by decide) rf_12_83
    refine g_X12_170 h dX12_back_10 ht rC_86 hq3.1 ?_
    refine r_iload_n h dX12_back_13 rfl 1 rfl ?_
    obtain ⟨hi4, hf⟩ := oc_some hf
    refine r_zald h dX12_back_14 hq3.2 rC_137 ra1 (N := 3) (by rw [rN_137]; rfl) (j := (a1).toNat) rfl hi4 ?_
    refine r_if_ne (tgt := 20) h dX12_back_15 (by decide) (hs1.1 _ _) (fun hc5 => ?_) (fun hc5 => ?_)
    · have hf := ite_f hc5 hf
      refine r_iconst h dX12_back_20 ?_
      refine r_istore_n h [(2, .int (vI 0)), (0, .ref (ad 86)), (1, .int (vI a1))] dX12_back_21 rfl (by decide) rfl ?_
      refine r_sub h [1, 2, 0] rfl ?_
      exact b_Mo_back_22 h hr hw ht ra1 FU 0 s1 (rIc rfl) hf
    · have hf := ite_nf hc5 hf
      refine r_iconst h dX12_back_18 ?_
      exact r_ret1 hr dX12_back_19 (rIc rfl) hf
set_option maxRecDepth 20000 in
theorem m_Mo_about {l : Launch} {D : va_G} {cs : Nat → ClassId} {aS aV : Nat} {A : Nat → Prop} {ad : Nat → Nat} {n : Nat} {nl : Nat → Nat → Bool} {out : Int × SS} (hw : w_WH n nl) (ht : 86 < n) {a1 : Int} (ra1 : rI a1) {s0 : SS} (hs0 : rS s0) (hf : f_Mo_about a1 s0 = some out) : w_MC l D cs aS aV A yX12_about cX12_about 2 1 rm_Mo_about ad n nl [.ref (ad 86), .int (vI a1)] s0 (w_Po ad n nl out) := by
  refine w_MC_of (by decide +kernel) (by decide) hs0 (Nat.le_of_ble_eq_true rfl) (fun K h hr => ?_)
  refine r_lv (lv' := [(0, .ref (ad 86)), (1, .int (vI a1))]) rfl ?_
  unfold f_Mo_about at hf
  refine r_rS h (fun hs0 => ?_)
  refine r_iload_n h dX12_about_0 rfl 1 rfl ?_
  by_cases hc1 : a1 = 0
  · have hf := ite_t hc1 hf
    refine r_tableIn (tgt := 72) h dX12_about_1 hc1 (rIc rfl) (by decide) (by decide) (off := 71) rfl (by decide) ?_
    refine r_aload_n h dX12_about_72 rfl 0 rfl ?_
    have hq2 := w_ref hw ht rC_86 (by decide) (k := 11) (by decide) rf_12_11
    refine g_X12_20 h dX12_about_73 ht rC_86 hq2.1 ?_
    refine r_aload_n h dX12_about_76 rfl 0 rfl ?_
    refine g_X12_295 h dX12_about_77 ht rC_86 ?_
    obtain ⟨hi3, hf⟩ := oc_some hf
    refine r_iald h dX12_about_80 hq2.2 rC_89 (hs0.1 _ _) (N := 2) (by rw [rN_89]; rfl) (j := (gi s0 86 40).toNat) rfl hi3 ?_
    exact r_ret1 hr dX12_about_81 (hs0.1 _ _) hf
  · have hf := ite_f hc1 hf
    by_cases hc4 : a1 = 1
    · have hf := ite_t hc4 hf
      refine r_tableIn (tgt := 82) h dX12_about_1 hc4 (rIc rfl) (by decide) (by decide) (off := 81) rfl (by decide) ?_
      refine r_aload_n h dX12_about_82 rfl 0 rfl ?_
      have hq5 := w_ref hw ht rC_86 (by decide) (k := 12) (by decide) rf_12_12
      refine g_X12_24 h dX12_about_83 ht rC_86 hq5.1 ?_
      refine r_aload_n h dX12_about_86 rfl 0 rfl ?_
      refine g_X12_295 h dX12_about_87 ht rC_86 ?_
      obtain ⟨hi6, hf⟩ := oc_some hf
      refine r_iald h dX12_about_90 hq5.2 rC_90 (hs0.1 _ _) (N := 2) (by rw [rN_90]; rfl) (j := (gi s0 86 40).toNat) rfl hi6 ?_
      exact r_ret1 hr dX12_about_91 (hs0.1 _ _) hf
    · have hf := ite_f hc4 hf
      by_cases hc7 : a1 = 2
      · have hf := ite_t hc7 hf
        refine r_tableIn (tgt := 92) h dX12_about_1 hc7 (rIc rfl) (by decide) (by decide) (off := 91) rfl (by decide) ?_
        refine r_aload_n h dX12_about_92 rfl 0 rfl ?_
        obtain ⟨r8, s8, hq8, hf⟩ := ob_some hf
        refine r_callV1 h [] dX12_about_93 (fun hs => m_Mo_soulMany hw ht hs hq8) ml_X12_404 cv_Mo_soulMany rfl (co := 12) rfl (by decide) ht rC_86 ⟨rfl, rfl⟩ ⟨Nat.le_of_ble_eq_true rfl, Nat.le_of_ble_eq_true rfl⟩ ⟨Nat.le_of_ble_eq_true rfl, Nat.le_of_ble_eq_true rfl⟩ (Nat.le_of_ble_eq_true rfl) rfl (fun hr8 hs8 => ?_)
        exact r_ret1 hr dX12_about_96 hr8 hf
      · have hf := ite_f hc7 hf
        by_cases hc9 : a1 = 3
        · have hf := ite_t hc9 hf
          refine r_tableIn (tgt := 97) h dX12_about_1 hc9 (rIc rfl) (by decide) (by decide) (off := 96) rfl (by decide) ?_
          refine r_aload_n h dX12_about_97 rfl 0 rfl ?_
          have hq10 := w_ref hw ht rC_86 (by decide) (k := 14) (by decide) rf_12_14
          refine g_X12_30 h dX12_about_98 ht rC_86 hq10.1 ?_
          refine r_aload_n h dX12_about_101 rfl 0 rfl ?_
          refine g_X12_295 h dX12_about_102 ht rC_86 ?_
          obtain ⟨hi11, hf⟩ := oc_some hf
          refine r_iald h dX12_about_105 hq10.2 rC_92 (hs0.1 _ _) (N := 2) (by rw [rN_92]; rfl) (j := (gi s0 86 40).toNat) rfl hi11 ?_
          exact r_ret1 hr dX12_about_106 (hs0.1 _ _) hf
        · have hf := ite_f hc9 hf
          by_cases hc12 : a1 = 4
          · have hf := ite_t hc12 hf
            refine r_tableIn (tgt := 107) h dX12_about_1 hc12 (rIc rfl) (by decide) (by decide) (off := 106) rfl (by decide) ?_
            refine r_aload_n h dX12_about_107 rfl 0 rfl ?_
            have hq13 := w_ref hw ht rC_86 (by decide) (k := 52) (by decide) rf_12_52
            refine g_X12_110 h dX12_about_108 ht rC_86 hq13.1 ?_
            refine r_iconst h dX12_about_111 ?_
            refine r_iald h dX12_about_112 hq13.2 rC_118 (rIc rfl) (N := 44) (by rw [rN_118]; rfl) (j := 0) rfl (by decide) ?_
            exact r_ret1 hr dX12_about_113 (hs0.1 _ _) hf
          · have hf := ite_f hc12 hf
            by_cases hc14 : a1 = 5
            · have hf := ite_t hc14 hf
              refine r_tableIn (tgt := 114) h dX12_about_1 hc14 (rIc rfl) (by decide) (by decide) (off := 113) rfl (by decide) ?_
              refine r_aload_n h dX12_about_114 rfl 0 rfl ?_
              refine g_X12_454 h dX12_about_115 ht rC_86 ?_
              exact r_ret1 hr dX12_about_118 (hs0.1 _ _) hf
            · have hf := ite_f hc14 hf
              by_cases hc15 : a1 = 6
              · have hf := ite_t hc15 hf
                refine r_tableIn (tgt := 119) h dX12_about_1 hc15 (rIc rfl) (by decide) (by decide) (off := 118) rfl (by decide) ?_
                refine r_aload_n h dX12_about_119 rfl 0 rfl ?_
                refine g_X12_457 h dX12_about_120 ht rC_86 ?_
                exact r_ret1 hr dX12_about_123 (hs0.1 _ _) hf
              · have hf := ite_f hc15 hf
                by_cases hc16 : a1 = 7
                · have hf := ite_t hc16 hf
                  refine r_tableIn (tgt := 124) h dX12_about_1 hc16 (rIc rfl) (by decide) (by decide) (off := 123) rfl (by decide) ?_
                  refine r_aload_n h dX12_about_124 rfl 0 rfl ?_
                  refine g_X12_125 h dX12_about_125 ht rC_86 ?_
                  refine r_if_ge (tgt := 135) h dX12_about_128 (by decide) (hs0.1 _ _) (fun hc17 => ?_) (fun hc17 => ?_)
                  · have hf := ite_t hc17 hf
                    refine r_aload_n h dX12_about_135 rfl 0 rfl ?_
                    refine g_X12_460 h dX12_about_136 ht rC_86 ?_
                    exact r_ret1 hr dX12_about_139 (hs0.1 _ _) hf
                  · have hf := ite_f hc17 hf
                    refine r_iconst h dX12_about_131 ?_
                    refine r_goto (tgt := 139) h dX12_about_132 (by decide) ?_
                    exact r_ret1 hr dX12_about_139 (rIc rfl) hf
                · have hf := ite_f hc16 hf
                  by_cases hc18 : a1 = 8
                  · have hf := ite_t hc18 hf
                    refine r_tableIn (tgt := 140) h dX12_about_1 hc18 (rIc rfl) (by decide) (by decide) (off := 139) rfl (by decide) ?_
                    refine r_aload_n h dX12_about_140 rfl 0 rfl ?_
                    refine g_X12_125 h dX12_about_141 ht rC_86 ?_
                    refine r_if_ge (tgt := 151) h dX12_about_144 (by decide) (hs0.1 _ _) (fun hc19 => ?_) (fun hc19 => ?_)
                    · have hf := ite_t hc19 hf
                      refine r_aload_n h dX12_about_151 rfl 0 rfl ?_
                      obtain ⟨r20, s20, hq20, hf⟩ := ob_some hf
                      refine r_callV1 h [] dX12_about_152 (fun hs => m_Mo_routeEnd hw ht hs hq20) ml_X12_484 cv_Mo_routeEnd rfl (co := 12) rfl (by decide) ht rC_86 ⟨rfl, rfl⟩ ⟨Nat.le_of_ble_eq_true rfl, Nat.le_of_ble_eq_true rfl⟩ ⟨Nat.le_of_ble_eq_true rfl, Nat.le_of_ble_eq_true rfl⟩ (Nat.le_of_ble_eq_true rfl) rfl (fun hr20 hs20 => ?_)
                      exact r_ret1 hr dX12_about_155 hr20 hf
                    · have hf := ite_f hc19 hf
                      refine r_iconst h dX12_about_147 ?_
                      refine r_goto (tgt := 155) h dX12_about_148 (by decide) ?_
                      exact r_ret1 hr dX12_about_155 (rIc rfl) hf
                  · have hf := ite_f hc18 hf
                    by_cases hc21 : a1 = 9
                    · have hf := ite_t hc21 hf
                      refine r_tableIn (tgt := 156) h dX12_about_1 hc21 (rIc rfl) (by decide) (by decide) (off := 155) rfl (by decide) ?_
                      refine r_aload_n h dX12_about_156 rfl 0 rfl ?_
                      refine g_X12_463 h dX12_about_157 ht rC_86 ?_
                      exact r_ret1 hr dX12_about_160 (hs0.1 _ _) hf
                    · have hf := ite_f hc21 hf
                      by_cases hc22 : a1 = 10
                      · have hf := ite_t hc22 hf
                        refine r_tableIn (tgt := 161) h dX12_about_1 hc22 (rIc rfl) (by decide) (by decide) (off := 160) rfl (by decide) ?_
                        refine r_aload_n h dX12_about_161 rfl 0 rfl ?_
                        refine g_X12_568 h dX12_about_162 ht rC_86 ?_
                        exact r_ret1 hr dX12_about_165 (hs0.1 _ _) hf
                      · have hf := ite_f hc22 hf
                        by_cases hc23 : a1 = 11
                        · have hf := ite_t hc23 hf
                          refine r_tableIn (tgt := 166) h dX12_about_1 hc23 (rIc rfl) (by decide) (by decide) (off := 165) rfl (by decide) ?_
                          refine r_aload_n h dX12_about_166 rfl 0 rfl ?_
                          refine g_X12_292 h dX12_about_167 ht rC_86 ?_
                          exact r_ret1 hr dX12_about_170 (hs0.1 _ _) hf
                        · have hf := ite_f hc23 hf
                          by_cases hc24 : a1 = 12
                          · have hf := ite_t hc24 hf
                            refine r_tableIn (tgt := 171) h dX12_about_1 hc24 (rIc rfl) (by decide) (by decide) (off := 170) rfl (by decide) ?_
                            refine r_aload_n h dX12_about_171 rfl 0 rfl ?_
                            have hq25 := w_ref hw ht rC_86 (by decide) (k := 15) (by decide) rf_12_15
                            refine g_X12_33 h dX12_about_172 ht rC_86 hq25.1 ?_
                            refine r_aload_n h dX12_about_175 rfl 0 rfl ?_
                            refine g_X12_295 h dX12_about_176 ht rC_86 ?_
                            obtain ⟨hi26, hf⟩ := oc_some hf
                            refine r_iald h dX12_about_179 hq25.2 rC_93 (hs0.1 _ _) (N := 2) (by rw [rN_93]; rfl) (j := (gi s0 86 40).toNat) rfl hi26 ?_
                            exact r_ret1 hr dX12_about_180 (hs0.1 _ _) hf
                          · have hf := ite_f hc24 hf
                            by_cases hc27 : a1 = 13
                            · have hf := ite_t hc27 hf
                              refine r_tableIn (tgt := 181) h dX12_about_1 hc27 (rIc rfl) (by decide) (by decide) (off := 180) rfl (by decide) ?_
                              refine r_aload_n h dX12_about_181 rfl 0 rfl ?_
                              refine g_X12_466 h dX12_about_182 ht rC_86 ?_
                              exact r_ret1 hr dX12_about_185 (hs0.1 _ _) hf
                            · have hf := ite_f hc27 hf
                              refine r_tableX (tgt := 186) h dX12_about_1 ra1 (by rcases (show a1 < 0 ∨ 13 < a1 from by omega) with q | q; exact Or.inl q; exact Or.inr (Or.inl q)) (by decide) ?_
                              refine r_iconst h dX12_about_186 ?_
                              exact r_ret1 hr dX12_about_187 (rIc rfl) hf
set_option maxRecDepth 20000 in
theorem b_Mo_feed_71 {l : Launch} {D : va_G} {cs : Nat → ClassId} {aS aV : Nat} {A : Nat → Prop} {K : KT} {ad : Nat → Nat} {n : Nat} {nl : Nat → Nat → Bool} {out : Int × SS} (h : w_Cl l rm_Mo_feed D cs aS aV A cX12_feed 8 RX12 "feed" K) (hr : w_Rt 1 cX12_feed 0 0 (w_Po ad n nl out) K) (hw : w_WH n nl) (ht : 86 < n) (x1 : Int) (x2 : Int) (x3 : Int) (x4 : Int) (x5 : Int) (x6 : Int) (z0 : Int) (self18 : Int → SS → OO) (hself18 : ∀ (x6 : Int) (τ : SS), rI x6 → self18 x6 τ = some out → K ad n nl 0 0 18 [(0, .ref (ad 86)), (1, .int (vI x1)), (2, .int (vI x2)), (3, .int (vI x3)), (4, .int (vI x4)), (5, .int (vI x5)), (6, .int (vI x6))] [] τ) (s0 : SS) (rx1 : rI x1) (rx2 : rI x2) (rx3 : rI x3) (rx4 : rI x4) (rx5 : rI x5) (rx6 : rI x6) (rz0 : rI z0) (hf : j_Mo_feed_71 self18 x1 x2 x3 x4 x5 x6 z0 s0 = some out) : K ad n nl 0 0 71 [(0, .ref (ad 86)), (1, .int (vI x1)), (2, .int (vI x2)), (3, .int (vI x3)), (4, .int (vI x4)), (5, .int (vI x5)), (6, .int (vI x6))] [.int (vI z0)] s0 := by
  unfold j_Mo_feed_71 at hf
  refine r_rS h (fun hs0 => ?_)
  refine r_istore h [(7, .int (vI z0)), (0, .ref (ad 86)), (1, .int (vI x1)), (2, .int (vI x2)), (3, .int (vI x3)), (4, .int (vI x4)), (5, .int (vI x5)), (6, .int (vI x6))] dX12_feed_71 (by decide) rfl ?_
  refine r_aload_n h dX12_feed_73 rfl 1 rfl ?_
  have hq1 := w_ref hw ht rC_86 (by decide) (k := 0) (by decide) rf_12_0
  refine g_X12_7 h dX12_feed_74 ht rC_86 hq1.1 ?_
  refine r_aload_n h dX12_feed_77 rfl 1 rfl ?_
  refine g_X12_292 h dX12_feed_78 ht rC_86 ?_
  refine r_iload h dX12_feed_81 7 rfl ?_
  refine r_iadd h dX12_feed_83 ?_
  refine r_iload h dX12_feed_84 0 rfl ?_
  refine r_bipush h dX12_feed_86 (by decide) ?_
  refine r_bipush h dX12_feed_88 (by decide) ?_
  refine r_iload h dX12_feed_90 7 rfl ?_
  refine r_iconst h dX12_feed_92 ?_
  refine r_iand h dX12_feed_93 ?_
  refine r_imul h dX12_feed_94 ?_
  refine r_isub h dX12_feed_95 ?_
  refine r_ishr h dX12_feed_96 ?_
  refine r_i2b h dX12_feed_97 ?_
  obtain ⟨hi2, hf⟩ := oc_some hf
  refine r_bast h dX12_feed_98 hq1.2 rC_87 (rI_iw _) (N := 1620) (by rw [rN_87]; rfl) (j := (iw ((gi s0 86 2) + x6)).toNat) rfl hi2  ?_
  refine r_os hf (fun s3 hf => ?_)
  refine r_rS h (fun hs3 => ?_)
  refine r_iinc h [(6, .int (vI (iw (x6 + 1)))), (7, .int (vI z0)), (0, .ref (ad 86)), (1, .int (vI x1)), (2, .int (vI x2)), (3, .int (vI x3)), (4, .int (vI x4)), (5, .int (vI x5))] dX12_feed_99 7 rfl (by decide) rfl ?_
  refine r_goto (tgt := 18) h dX12_feed_102 (by decide) ?_
  refine r_sub h [2, 3, 4, 5, 6, 7, 0] rfl ?_
  exact hself18 (iw (x6 + 1)) s3 (rI_iw _) hf
set_option maxRecDepth 20000 in
theorem b_Mo_feed_18 {l : Launch} {D : va_G} {cs : Nat → ClassId} {aS aV : Nat} {A : Nat → Prop} {K : KT} {ad : Nat → Nat} {n : Nat} {nl : Nat → Nat → Bool} {out : Int × SS} (h : w_Cl l rm_Mo_feed D cs aS aV A cX12_feed 8 RX12 "feed" K) (hr : w_Rt 1 cX12_feed 0 0 (w_Po ad n nl out) K) (hw : w_WH n nl) (ht : 86 < n) {y1 : Int} (ry1 : rI y1) {y2 : Int} (ry2 : rI y2) {y3 : Int} (ry3 : rI y3) {y4 : Int} (ry4 : rI y4) {y5 : Int} (ry5 : rI y5) : ∀ (fu : Nat) (x6 : Int) (s0 : SS), rI x6 → l_Mo_feed_18 y1 y2 y3 y4 y5 fu x6 s0 = some out → K ad n nl 0 0 18 [(0, .ref (ad 86)), (1, .int (vI y1)), (2, .int (vI y2)), (3, .int (vI y3)), (4, .int (vI y4)), (5, .int (vI y5)), (6, .int (vI x6))] [] s0 := by
  intro fu
  induction fu with
  | zero =>
    intro x6 s0 rx6 hf
    rw [l_Mo_feed_18] at hf
    cases hf
  | succ fu ih =>
    intro x6 s0 rx6 hf
    rw [l_Mo_feed_18] at hf
    refine r_rS h (fun hs0 => ?_)
    refine r_iload h dX12_feed_18 6 rfl ?_
    refine r_bipush h dX12_feed_20 (by decide) ?_
    refine r_icmp_ge (tgt := 105) h dX12_feed_22 (by decide) rx6 (rIc rfl) (fun hc1 => ?_) (fun hc1 => ?_)
    · have hf := ite_t hc1 hf
      refine r_aload_n h dX12_feed_105 rfl 0 rfl ?_
      refine r_dup h dX12_feed_106 rfl ?_
      refine g_X12_292 h dX12_feed_107 ht rC_86 ?_
      refine r_bipush h dX12_feed_110 (by decide) ?_
      refine r_iadd h dX12_feed_112 ?_
      refine p_X12_292 h dX12_feed_113 ht rC_86 (rI_iw _) ?_
      refine r_os hf (fun s2 hf => ?_)
      refine r_rS h (fun hs2 => ?_)
      refine r_aload_n h dX12_feed_116 rfl 0 rfl ?_
      refine g_X12_292 h dX12_feed_117 ht rC_86 ?_
      exact r_ret1 hr dX12_feed_120 (hs2.1 _ _) hf
    · have hf := ite_f hc1 hf
      refine r_iload h dX12_feed_25 6 rfl ?_
      refine r_iconst h dX12_feed_27 ?_
      refine r_icmp_ge (tgt := 35) h dX12_feed_28 (by decide) rx6 (rIc rfl) (fun hc3 => ?_) (fun hc3 => ?_)
      · have hf := ite_t hc3 hf
        refine r_iload h dX12_feed_35 6 rfl ?_
        refine r_bipush h dX12_feed_37 (by decide) ?_
        refine r_icmp_ge (tgt := 46) h dX12_feed_39 (by decide) rx6 (rIc rfl) (fun hc4 => ?_) (fun hc4 => ?_)
        · have hf := ite_t hc4 hf
          refine r_iload h dX12_feed_46 6 rfl ?_
          refine r_bipush h dX12_feed_48 (by decide) ?_
          refine r_icmp_ge (tgt := 57) h dX12_feed_50 (by decide) rx6 (rIc rfl) (fun hc5 => ?_) (fun hc5 => ?_)
          · have hf := ite_t hc5 hf
            refine r_iload h dX12_feed_57 6 rfl ?_
            refine r_bipush h dX12_feed_59 (by decide) ?_
            refine r_icmp_ge (tgt := 69) h dX12_feed_61 (by decide) rx6 (rIc rfl) (fun hc6 => ?_) (fun hc6 => ?_)
            · have hf := ite_t hc6 hf
              refine r_iload h dX12_feed_69 5 rfl ?_
              exact b_Mo_feed_71 h hr hw ht y1 y2 y3 y4 y5 x6 y5 (l_Mo_feed_18 y1 y2 y3 y4 y5 fu) ih s0 ry1 ry2 ry3 ry4 ry5 rx6 ry5 hf
            · have hf := ite_f hc6 hf
              refine r_iload h dX12_feed_64 4 rfl ?_
              refine r_goto (tgt := 71) h dX12_feed_66 (by decide) ?_
              exact b_Mo_feed_71 h hr hw ht y1 y2 y3 y4 y5 x6 y4 (l_Mo_feed_18 y1 y2 y3 y4 y5 fu) ih s0 ry1 ry2 ry3 ry4 ry5 rx6 ry4 hf
          · have hf := ite_f hc5 hf
            refine r_iload_n h dX12_feed_53 rfl 3 rfl ?_
            refine r_goto (tgt := 71) h dX12_feed_54 (by decide) ?_
            exact b_Mo_feed_71 h hr hw ht y1 y2 y3 y4 y5 x6 y3 (l_Mo_feed_18 y1 y2 y3 y4 y5 fu) ih s0 ry1 ry2 ry3 ry4 ry5 rx6 ry3 hf
        · have hf := ite_f hc4 hf
          refine r_iload_n h dX12_feed_42 rfl 2 rfl ?_
          refine r_goto (tgt := 71) h dX12_feed_43 (by decide) ?_
          exact b_Mo_feed_71 h hr hw ht y1 y2 y3 y4 y5 x6 y2 (l_Mo_feed_18 y1 y2 y3 y4 y5 fu) ih s0 ry1 ry2 ry3 ry4 ry5 rx6 ry2 hf
      · have hf := ite_f hc3 hf
        refine r_iload_n h dX12_feed_31 rfl 1 rfl ?_
        refine r_goto (tgt := 71) h dX12_feed_32 (by decide) ?_
        exact b_Mo_feed_71 h hr hw ht y1 y2 y3 y4 y5 x6 y1 (l_Mo_feed_18 y1 y2 y3 y4 y5 fu) ih s0 ry1 ry2 ry3 ry4 ry5 rx6 ry1 hf
set_option maxRecDepth 20000 in
theorem m_Mo_feed {l : Launch} {D : va_G} {cs : Nat → ClassId} {aS aV : Nat} {A : Nat → Prop} {ad : Nat → Nat} {n : Nat} {nl : Nat → Nat → Bool} {out : Int × SS} (hw : w_WH n nl) (ht : 86 < n) {a1 : Int} (ra1 : rI a1) {a2 : Int} (ra2 : rI a2) {a3 : Int} (ra3 : rI a3) {a4 : Int} (ra4 : rI a4) {a5 : Int} (ra5 : rI a5) {s0 : SS} (hs0 : rS s0) (hf : f_Mo_feed a1 a2 a3 a4 a5 s0 = some out) : w_MC l D cs aS aV A yX12_feed cX12_feed 8 1 rm_Mo_feed ad n nl [.ref (ad 86), .int (vI a1), .int (vI a2), .int (vI a3), .int (vI a4), .int (vI a5)] s0 (w_Po ad n nl out) := by
  refine w_MC_of (by decide +kernel) (by decide) hs0 (Nat.le_of_ble_eq_true rfl) (fun K h hr => ?_)
  refine r_lv (lv' := [(0, .ref (ad 86)), (1, .int (vI a1)), (2, .int (vI a2)), (3, .int (vI a3)), (4, .int (vI a4)), (5, .int (vI a5))]) rfl ?_
  unfold f_Mo_feed at hf
  refine r_rS h (fun hs0 => ?_)
  refine r_aload_n h dX12_feed_0 rfl 0 rfl ?_
  refine g_X12_292 h dX12_feed_1 ht rC_86 ?_
  refine r_bipush h dX12_feed_4 (by decide) ?_
  refine r_iadd h dX12_feed_6 ?_
  refine r_sipush h dX12_feed_7 (by decide) ?_
  refine r_icmp_le (tgt := 15) h dX12_feed_10 (by decide) (rI_iw _) (rIc rfl) (fun hc1 => ?_) (fun hc1 => ?_)
  · have hf := ite_t hc1 hf
    refine r_iconst h dX12_feed_15 ?_
    refine r_istore h [(6, .int (vI 0)), (0, .ref (ad 86)), (1, .int (vI a1)), (2, .int (vI a2)), (3, .int (vI a3)), (4, .int (vI a4)), (5, .int (vI a5))] dX12_feed_16 (by decide) rfl ?_
    refine r_sub h [1, 2, 3, 4, 5, 6, 0] rfl ?_
    exact b_Mo_feed_18 h hr hw ht ra1 ra2 ra3 ra4 ra5 FU 0 s0 (rIc rfl) hf
  · have hf := ite_f hc1 hf
    refine r_iconst h dX12_feed_13 ?_
    exact r_ret1 hr dX12_feed_14 (rIc rfl) hf
set_option maxRecDepth 20000 in
theorem m_Mo_end {l : Launch} {D : va_G} {cs : Nat → ClassId} {aS aV : Nat} {A : Nat → Prop} {ad : Nat → Nat} {n : Nat} {nl : Nat → Nat → Bool} {out : Int × SS} (hw : w_WH n nl) (ht : 86 < n) {a1 : Int} (ra1 : rI a1) {s0 : SS} (hs0 : rS s0) (hf : f_Mo_end a1 s0 = some out) : w_MC l D cs aS aV A yX12_end cX12_end 2 1 rm_Mo_end ad n nl [.ref (ad 86), .int (vI a1)] s0 (w_Po ad n nl out) := by
  refine w_MC_of (by decide +kernel) (by decide) hs0 (Nat.le_of_ble_eq_true rfl) (fun K h hr => ?_)
  refine r_lv (lv' := [(0, .ref (ad 86)), (1, .int (vI a1))]) rfl ?_
  unfold f_Mo_end at hf
  refine r_rS h (fun hs0 => ?_)
  refine r_iload_n h dX12_end_0 rfl 1 rfl ?_
  refine r_if_lt (tgt := 12) h dX12_end_1 (by decide) ra1 (fun hc1 => ?_) (fun hc1 => ?_)
  · have hf := ite_t hc1 hf
    refine r_iconst h dX12_end_12 ?_
    exact r_ret1 hr dX12_end_13 (rIc rfl) hf
  · have hf := ite_f hc1 hf
    refine r_iload_n h dX12_end_4 rfl 1 rfl ?_
    refine r_aload_n h dX12_end_5 rfl 0 rfl ?_
    refine g_X12_292 h dX12_end_6 ht rC_86 ?_
    refine r_icmp_le (tgt := 14) h dX12_end_9 (by decide) ra1 (hs0.1 _ _) (fun hc2 => ?_) (fun hc2 => ?_)
    · have hf := ite_t hc2 hf
      refine r_aload_n h dX12_end_14 rfl 0 rfl ?_
      refine r_iload_n h dX12_end_15 rfl 1 rfl ?_
      refine p_X12_292 h dX12_end_16 ht rC_86 ra1 ?_
      refine r_os hf (fun s3 hf => ?_)
      refine r_rS h (fun hs3 => ?_)
      refine r_iload_n h dX12_end_19 rfl 1 rfl ?_
      exact r_ret1 hr dX12_end_20 ra1 hf
    · have hf := ite_f hc2 hf
      refine r_iconst h dX12_end_12 ?_
      exact r_ret1 hr dX12_end_13 (rIc rfl) hf
