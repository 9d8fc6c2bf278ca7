noncomputable def f_Fo_clear (t : Nat) (s0 : SS) : OO :=
  os (si s0 t 2 0) fun s1 =>
  os (si s1 t 3 0) fun s2 =>
  some (0, s2)
noncomputable def f_Fo_isTold (t : Nat) (s0 : SS) : OO :=
  if (gi s0 t 2) ≤ 0 then (
    some (0, s0))
  else (
    some (1, s0))
noncomputable def f_Fo_add (t : Nat) (a1 : Int) (s0 : SS) : OO :=
  if (gi s0 t 2) < 0 then (
    some (0, s0))
  else (
    if 320 ≤ (gi s0 t 2) then (
      some (0, s0))
    else (
      oc (0 ≤ gi s0 t 2 ∧ gi s0 t 2 < 320) <|
      os (si s0 (t + 1) ((gi s0 t 2).toNat) a1) fun s6 =>
      os (si s6 t 2 (iw ((gi s6 t 2) + 1))) fun s7 =>
      some (0, s7)))
noncomputable def f_Fo_addNumber (t : Nat) (a1 : Int) (s0 : SS) : OO :=
  ob (f_Fo_add t a1 s0) fun r1 s1 =>
  some (0, s1)
noncomputable def f_Fo_addKnown (t : Nat) (a1 : Int) (s0 : SS) : OO :=
  ob (f_Fo_add t (iw ((-1) - a1)) s0) fun r1 s1 =>
  some (0, s1)
noncomputable def f_Fo_addOperator (t : Nat) (a1 : Int) (s0 : SS) : OO :=
  ob (f_Fo_add t (iw (-a1)) s0) fun r1 s1 =>
  some (0, s1)
noncomputable def l_Fo_asksFor_2 (t : Nat) (y1 : Int) : Nat → Int → SS → OO
  | 0, _, _ => none
  | fu + 1, x2, s0 =>
    if (gi s0 t 2) ≤ x2 then (
      some (0, s0))
    else (
      if 320 ≤ x2 then (
        some (0, s0))
      else (
        oc (0 ≤ x2 ∧ x2 < 320) <|
        if (gi s0 (t + 1) ((x2).toNat)) = (iw ((-1) - y1)) then (
          some (1, s0))
        else (
          (l_Fo_asksFor_2 t y1 fu) (iw (x2 + 1)) s0)))
noncomputable def f_Fo_asksFor (t : Nat) (a1 : Int) (s0 : SS) : OO :=
  l_Fo_asksFor_2 t a1 FU 0 s0
noncomputable def f_Fo_join (a1 : Int) (a2 : Int) (a3 : Int) (s0 : SS) : OO :=
  if a1 = 37 then (
    if a3 = 0 then (
      some (0, s0))
    else (
      oc (¬ a3 = 0) <|
      some (Int.tmod a2 a3, s0)))
  else   if a1 = 42 then (
      some (iw (a2 * a3), s0))
  else   if a1 = 43 then (
        some (iw (a2 + a3), s0))
  else   if a1 = 45 then (
          some (iw (a2 - a3), s0))
  else   if a1 = 47 then (
            if a3 = 0 then (
              some (0, s0))
            else (
              oc (¬ a3 = 0) <|
              some (iw (Int.tdiv a2 a3), s0)))
  else   if a1 = 60 then (
              if a3 ≤ a2 then (
                some (0, s0))
              else (
                some (1, s0)))
  else   if a1 = 61 then (
                if a2 = a3 then (
                  some (1, s0))
                else (
                  some (0, s0)))
  else   if a1 = 62 then (
                  if a2 ≤ a3 then (
                    some (0, s0))
                  else (
                    some (1, s0)))
  else   if a1 = 271 then (
                    if a2 = 0 then (
                      if a3 = 0 then (
                        some (0, s0))
                      else (
                        some (1, s0)))
                    else (
                      some (1, s0)))
  else   if a1 = 272 then (
                      if a2 = 0 then (
                        some (0, s0))
                      else (
                        if a3 = 0 then (
                          some (0, s0))
                        else (
                          some (1, s0))))
  else (
                      some (0, s0))
noncomputable def j_Fo_answer_81 (t : Nat) (u1 : Nat) (self5 : Int → Int → SS → OO) (x2 : Int) (x3 : Int) (x4 : Int) (z1 : Int) (z2 : Int) (s0 : SS) : OO :=
  oc (0 ≤ z1 ∧ z1 < 32) <|
  os (si s0 (t + 2) ((z1).toNat) z2) fun s2 =>
  self5 (iw (x3 + 1)) (iw (x4 + 1)) s2
noncomputable def j_Fo_answer_126 (t : Nat) (u1 : Nat) (self5 : Int → Int → SS → OO) (x2 : Int) (x3 : Int) (x4 : Int) (z1 : Int) (z2 : Int) (s0 : SS) : OO :=
  oc (0 ≤ z1 ∧ z1 < 32) <|
  os (si s0 (t + 2) ((z1).toNat) z2) fun s2 =>
  self5 x3 (iw (x4 + 1)) s2
noncomputable def j_Fo_answer_174 (t : Nat) (u1 : Nat) (x2 : Int) (x3 : Int) (s0 : SS) : OO :=
  if x3 = 1 then (
    some (gi s0 (t + 2) 0, s0))
  else (
    some (x2, s0))
noncomputable def l_Fo_answer_5 (t : Nat) (u1 : Nat) (y2 : Int) : Nat → Int → Int → SS → OO
  | 0, _, _, _ => none
  | fu + 1, x3, x4, s0 =>
    if (gi s0 t 2) ≤ x4 then (
      j_Fo_answer_174 t u1 y2 x3 s0)
    else (
      if 320 ≤ x4 then (
        j_Fo_answer_174 t u1 y2 x3 s0)
      else (
        oc (0 ≤ x4 ∧ x4 < 320) <|
        ol (gi s0 (t + 1) ((x4).toNat)) fun x6_ =>
        if x6_ < (-6) then (
          if x6_ = (-273) then (
            if 1 ≤ x3 then (
              oc (0 ≤ iw (x3 - 1) ∧ iw (x3 - 1) < 32) <|
              if (gi s0 (t + 2) ((iw (x3 - 1)).toNat)) = 0 then (
                j_Fo_answer_126 t u1 (l_Fo_answer_5 t u1 y2 fu) y2 x3 x4 (iw (x3 - 1)) 1 s0)
              else (
                j_Fo_answer_126 t u1 (l_Fo_answer_5 t u1 y2 fu) y2 x3 x4 (iw (x3 - 1)) 0 s0))
            else (
              some (y2, s0)))
          else (
            if 2 ≤ x3 then (
              oc (0 ≤ iw ((iw (x3 + (-1))) - 1) ∧ iw ((iw (x3 + (-1))) - 1) < 32) <|
              oc (0 ≤ iw (x3 + (-1)) ∧ iw (x3 + (-1)) < 32) <|
              ob (f_Fo_join (iw (-x6_)) (gi s0 (t + 2) ((iw ((iw (x3 + (-1))) - 1)).toNat)) (gi s0 (t + 2) ((iw (x3 + (-1))).toNat)) s0) fun r15 s15 =>
              oc (0 ≤ iw ((iw (x3 + (-1))) - 1) ∧ iw ((iw (x3 + (-1))) - 1) < 32) <|
              os (si s15 (t + 2) ((iw ((iw (x3 + (-1))) - 1)).toNat) r15) fun s17 =>
              (l_Fo_answer_5 t u1 y2 fu) (iw (x3 + (-1))) (iw (x4 + 1)) s17)
            else (
              some (y2, s0))))
        else (
          if 32 ≤ x3 then (
            some (y2, s0))
          else (
            if (iw ((-1) - x6_)) < ((rN u1 : Nat) : Int) then (
              if x6_ < 0 then (
                oc (0 ≤ iw ((-1) - x6_) ∧ iw ((-1) - x6_) < ((rN u1 : Nat) : Int)) <|
                j_Fo_answer_81 t u1 (l_Fo_answer_5 t u1 y2 fu) y2 x3 x4 x3 (gi s0 u1 ((iw ((-1) - x6_)).toNat)) s0)
              else (
                j_Fo_answer_81 t u1 (l_Fo_answer_5 t u1 y2 fu) y2 x3 x4 x3 x6_ s0))
            else (
              some (y2, s0))))))
noncomputable def f_Fo_answer (t : Nat) (u1 : Nat) (a2 : Int) (s0 : SS) : OO :=
  l_Fo_answer_5 t u1 a2 FU 0 0 s0
noncomputable def f_Qu_within (a1 : Int) (a2 : Int) (a3 : Int) (s0 : SS) : OO :=
  if a1 ≤ a2 then (
    if a2 ≤ a3 then (
      some (a2, s0))
    else (
      some (a3, s0)))
  else (
    some (a1, s0))
noncomputable def f_La_clear (t : Nat) (s0 : SS) : OO :=
  os (si s0 t 0 0) fun s1 =>
  os (si s1 t 4 0) fun s2 =>
  os (si s2 t 9 0) fun s3 =>
  os (si s3 t 12 0) fun s4 =>
  os (si s4 t 17 0) fun s5 =>
  ob (f_Fo_clear (t + 14) s5) fun r7 s7 =>
  ob (f_Fo_clear (t + 17) s7) fun r9 s9 =>
  some (0, s9)
noncomputable def f_La_isPlace (t : Nat) (a1 : Int) (s0 : SS) : OO :=
  if a1 < 0 then (
    some (0, s0))
  else (
    if (gi s0 t 0) ≤ a1 then (
      some (0, s0))
    else (
      if 8 ≤ a1 then (
        some (0, s0))
      else (
        some (1, s0))))
noncomputable def f_La_isWay (t : Nat) (a1 : Int) (s0 : SS) : OO :=
  if a1 < 0 then (
    some (0, s0))
  else (
    if (gi s0 t 4) ≤ a1 then (
      some (0, s0))
    else (
      if 14 ≤ a1 then (
        some (0, s0))
      else (
        some (1, s0))))
noncomputable def f_La_isSoul (t : Nat) (a1 : Int) (s0 : SS) : OO :=
  if a1 < 0 then (
    some (0, s0))
  else (
    if (gi s0 t 9) ≤ a1 then (
      some (0, s0))
    else (
      if 6 ≤ a1 then (
        some (0, s0))
      else (
        some (1, s0))))
noncomputable def f_La_isMatter (t : Nat) (a1 : Int) (s0 : SS) : OO :=
  if a1 < 0 then (
    some (0, s0))
  else (
    if (gi s0 t 12) ≤ a1 then (
      some (0, s0))
    else (
      if 6 ≤ a1 then (
        some (0, s0))
      else (
        some (1, s0))))
noncomputable def f_La_couple (t : Nat) (a1 : Int) (a2 : Int) (a3 : Int) (s0 : SS) : OO :=
  ob (f_La_isSoul t a1 s0) fun r1 s1 =>
  if r1 = 0 then (
    some ((-1), s1))
  else (
    ob (f_La_isSoul t a2 s1) fun r3 s3 =>
    if r3 = 0 then (
      some ((-1), s3))
    else (
      if a1 = a2 then (
        some ((-1), s3))
      else (
        ob (f_La_isMatter t a3 s3) fun r6 s6 =>
        if r6 = 0 then (
          some ((-1), s6))
        else (
          some (iw ((iw ((iw (100 * a1)) + (iw (10 * a2)))) + a3), s6)))))
noncomputable def f_La_isCouple (t : Nat) (a1 : Int) (s0 : SS) : OO :=
  if a1 < 0 then (
    some (0, s0))
  else (
    ob (f_La_couple t (Int.tdiv a1 100) (Int.tmod (Int.tdiv a1 10) 10) (Int.tmod a1 10) s0) fun r2 s2 =>
    if r2 = a1 then (
      some (1, s2))
    else (
      some (0, s2)))
noncomputable def f_La_otherEnd (t : Nat) (a1 : Int) (a2 : Int) (s0 : SS) : OO :=
  ob (f_La_isWay t a1 s0) fun r1 s1 =>
  if r1 = 0 then (
    some ((-1), s1))
  else (
    oc (0 ≤ a1 ∧ a1 < 14) <|
    if (gi s1 (t + 4) ((a1).toNat)) = a2 then (
      oc (0 ≤ a1 ∧ a1 < 14) <|
      some (gi s1 (t + 5) ((a1).toNat), s1))
    else (
      oc (0 ≤ a1 ∧ a1 < 14) <|
      if (gi s1 (t + 5) ((a1).toNat)) = a2 then (
        oc (0 ≤ a1 ∧ a1 < 14) <|
        some (gi s1 (t + 4) ((a1).toNat), s1))
      else (
        some ((-1), s1))))
noncomputable def f_Ro_reset (t : Nat) (a1 : Int) (s0 : SS) : OO :=
  os (si s0 t 2 0) fun s1 =>
  os (si s1 t 3 a1) fun s2 =>
  some (0, s2)
noncomputable def f_Ro_append (t : Nat) (u1 : Nat) (a2 : Int) (s0 : SS) : OO :=
  ob (f_La_otherEnd u1 a2 (gi s0 t 3) s0) fun r1 s1 =>
  if (gi s1 t 3) = (-1) then (
    some (0, s1))
  else (
    if r1 = (-1) then (
      some (0, s1))
    else (
      if (gi s1 t 2) < 0 then (
        some (0, s1))
      else (
        if (gi s1 t 2) < 12 then (
          oc (0 ≤ gi s1 t 2 ∧ gi s1 t 2 < 12) <|
          os (si s1 (t + 1) ((gi s1 t 2).toNat) a2) fun s8 =>
          oc (0 ≤ gi s8 t 2 ∧ gi s8 t 2 < 12) <|
          os (si s8 (t + 2) ((gi s8 t 2).toNat) r1) fun s11 =>
          os (si s11 t 2 (iw ((gi s11 t 2) + 1))) fun s12 =>
          os (si s12 t 3 r1) fun s13 =>
          some (1, s13))
        else (
          some (0, s1)))))
noncomputable def l_Ta_begin_61 (t : Nat) (y2 : Int) : Nat → Int → SS → OO
  | 0, _, _ => none
  | fu + 1, x3, s0 =>
    if (gi s0 t 6) ≤ x3 then (
      some (0, s0))
    else (
      oc (0 ≤ iw ((iw (y2 * 8)) + x3) ∧ iw ((iw (y2 * 8)) + x3) < 48) <|
      oc (0 ≤ x3 ∧ x3 < 20) <|
      os (si s0 (t + 2) ((x3).toNat) (gi s0 15 ((iw ((iw (y2 * 8)) + x3)).toNat))) fun s7 =>
      (l_Ta_begin_61 t y2 fu) (iw (x3 + 1)) s7)
noncomputable def f_Ta_begin (t : Nat) (a1 : Int) (s0 : SS) : OO :=
  ol (Int.tmod a1 10) fun x1_ =>
  ob (f_La_isMatter 2 x1_ s0) fun r3 s3 =>
  if r3 = 0 then (
    some (0, s3))
  else (
    os (si s3 t 3 a1) fun s5 =>
    oc (0 ≤ x1_ ∧ x1_ < 6) <|
    os (si s5 t 4 (gi s5 13 ((x1_).toNat))) fun s9 =>
    os (si s9 t 5 0) fun s10 =>
    oc (0 ≤ x1_ ∧ x1_ < 6) <|
    ob (f_Qu_within 0 (gi s10 14 ((x1_).toNat)) 8 s10) fun r14 s14 =>
    os (si s14 t 6 r14) fun s15 =>
    l_Ta_begin_61 t x1_ FU 0 s15)
noncomputable def f_Ta_isOver (t : Nat) (s0 : SS) : OO :=
  if (gi s0 t 4) ≤ 0 then (
    some (1, s0))
  else (
    if 0 < (gi s0 t 6) then (
      some (0, s0))
    else (
      some (1, s0)))
noncomputable def j_Ta_say_29 (t : Nat) (u1 : Nat) (z0 : Int) (s0 : SS) : OO :=
  if (gi s0 t 6) ≤ 0 then (
    some (0, s0))
  else (
    if 20 < (gi s0 t 6) then (
      some (0, s0))
    else (
      ob (f_La_isSoul 2 z0 s0) fun r4 s4 =>
      if r4 = 0 then (
        some (0, s4))
      else (
        if (iw ((iw (2 * z0)) + 1)) < ((rN u1 : Nat) : Int) then (
          os (si s4 t 6 (iw ((gi s4 t 6) - 1))) fun s7 =>
          os (si s7 t 5 (iw ((gi s7 t 5) + 1))) fun s8 =>
          os (si s8 (t + 1) 0 (gi s8 t 4)) fun s10 =>
          oc (0 ≤ gi s10 t 6 ∧ gi s10 t 6 < 20) <|
          os (si s10 (t + 1) 1 (gi s10 (t + 2) ((gi s10 t 6).toNat))) fun s14 =>
          oc (0 ≤ iw (2 * z0) ∧ iw (2 * z0) < ((rN u1 : Nat) : Int)) <|
          os (si s14 (t + 1) 2 (gi s14 u1 ((iw (2 * z0)).toNat))) fun s17 =>
          oc (0 ≤ iw ((iw (2 * z0)) + 1) ∧ iw ((iw (2 * z0)) + 1) < ((rN u1 : Nat) : Int)) <|
          os (si s17 (t + 1) 3 (gi s17 u1 ((iw ((iw (2 * z0)) + 1)).toNat))) fun s20 =>
          os (si s20 (t + 1) 4 (gi s20 t 5)) fun s22 =>
          os (si s22 (t + 1) 5 (gi s22 t 6)) fun s24 =>
          ob (f_Fo_answer 16 (t + 1) (iw ((gi s24 t 4) - 1)) s24) fun r28 s28 =>
          ob (f_Fo_answer 19 (t + 1) 0 s28) fun r32 s32 =>
          ob (f_Qu_within 0 r28 99 s32) fun r33 s33 =>
          os (si s33 t 4 r33) fun s34 =>
          if r32 ≤ 0 then (
            some (0, s34))
          else (
            oc (0 ≤ gi s34 t 6 ∧ gi s34 t 6 < 20) <|
            os (si s34 (t + 2) ((gi s34 t 6).toNat) (zmin r32 9)) fun s38 =>
            os (si s38 t 6 (iw ((gi s38 t 6) + 1))) fun s39 =>
            some (0, s39)))
        else (
          some (0, s4)))))
noncomputable def f_Ta_say (t : Nat) (u1 : Nat) (s0 : SS) : OO :=
  if (Int.tmod (gi s0 t 5) 2) = 0 then (
    j_Ta_say_29 t u1 (Int.tdiv (gi s0 t 3) 100) s0)
  else (
    j_Ta_say_29 t u1 (Int.tmod (Int.tdiv (gi s0 t 3) 10) 10) s0)
noncomputable def f_Ta_sayOnWay (t : Nat) (u1 : Nat) (a2 : Int) (a3 : Int) (a4 : Int) (s0 : SS) : OO :=
  ob (f_Ta_say t u1 s0) fun r1 s1 =>
  ob (f_La_isWay 2 a2 s1) fun r3 s3 =>
  if r3 = 0 then (
    some (0, s3))
  else (
    ob (f_La_isPlace 2 a4 s3) fun r6 s6 =>
    if r6 = 0 then (
      some (0, s6))
    else (
      oc (0 ≤ a2 ∧ a2 < 14) <|
      ob (f_Qu_within 0 (iw ((gi s6 t 4) + (gi s6 9 ((a2).toNat)))) 99 s6) fun r11 s11 =>
      os (si s11 t 4 r11) fun s12 =>
      oc (0 ≤ a2 ∧ a2 < 14) <|
      if (gi s12 8 ((a2).toNat)) ≤ a3 then (
        oc (0 ≤ a4 ∧ a4 < 8) <|
        os (si s12 t 4 (zmax 0 (iw ((gi s12 t 4) - (gi s12 4 ((a4).toNat)))))) fun s20 =>
        oc (0 ≤ a4 ∧ a4 < 8) <|
        if (gi s20 5 ((a4).toNat)) ≤ 0 then (
          some (0, s20))
        else (
          if (gi s20 t 6) < 0 then (
            some (0, s20))
          else (
            if 20 ≤ (gi s20 t 6) then (
              some (0, s20))
            else (
              oc (0 ≤ a4 ∧ a4 < 8) <|
              oc (0 ≤ gi s20 t 6 ∧ gi s20 t 6 < 20) <|
              os (si s20 (t + 2) ((gi s20 t 6).toNat) (gi s20 5 ((a4).toNat))) fun s32 =>
              os (si s32 t 6 (iw ((gi s32 t 6) + 1))) fun s33 =>
              some (0, s33)))))
      else (
        some (0, s12))))
noncomputable def j_Ta_talkOpenly_25 (t : Nat) (u1 : Nat)  (s0 : SS) : OO :=
  ob (f_Ta_isOver t s0) fun r1 s1 =>
  if r1 = 0 then (
    some ((-1), s1))
  else (
    some (gi s1 t 5, s1))
noncomputable def l_Ta_talkOpenly_2 (t : Nat) (u1 : Nat) (y2 : Int) : Nat → Int → SS → OO
  | 0, _, _ => none
  | fu + 1, x3, s0 =>
    if y2 ≤ x3 then (
      j_Ta_talkOpenly_25 t u1 s0)
    else (
      ob (f_Ta_isOver t s0) fun r2 s2 =>
      if r2 = 0 then (
        ob (f_Ta_say t u1 s2) fun r4 s4 =>
        (l_Ta_talkOpenly_2 t u1 y2 fu) (iw (x3 + 1)) s4)
      else (
        j_Ta_talkOpenly_25 t u1 s2))
noncomputable def f_Ta_talkOpenly (t : Nat) (u1 : Nat) (a2 : Int) (s0 : SS) : OO :=
  l_Ta_talkOpenly_2 t u1 a2 FU 0 s0
noncomputable def l_Ta_put_50 (t : Nat) (u1 : Nat) (y2 : Int) : Nat → Int → SS → OO
  | 0, _, _ => none
  | fu + 1, x3, s0 =>
    if 20 ≤ x3 then (
      some (0, s0))
    else (
      oc (0 ≤ x3 ∧ x3 < 20) <|
      oc (0 ≤ iw ((iw (y2 + 4)) + x3) ∧ iw ((iw (y2 + 4)) + x3) < ((rN u1 : Nat) : Int)) <|
      os (si s0 u1 ((iw ((iw (y2 + 4)) + x3)).toNat) (gi s0 (t + 2) ((x3).toNat))) fun s5 =>
      (l_Ta_put_50 t u1 y2 fu) (iw (x3 + 1)) s5)
noncomputable def f_Ta_put (t : Nat) (u1 : Nat) (a2 : Int) (s0 : SS) : OO :=
  if a2 < 0 then (
    some (0, s0))
  else (
    if a2 ≤ (iw (((rN u1 : Nat) : Int) - 24)) then (
      oc (0 ≤ a2 ∧ a2 < ((rN u1 : Nat) : Int)) <|
      os (si s0 u1 ((a2).toNat) (gi s0 t 3)) fun s4 =>
      oc (0 ≤ iw (a2 + 1) ∧ iw (a2 + 1) < ((rN u1 : Nat) : Int)) <|
      os (si s4 u1 ((iw (a2 + 1)).toNat) (gi s4 t 4)) fun s6 =>
      oc (0 ≤ iw (a2 + 2) ∧ iw (a2 + 2) < ((rN u1 : Nat) : Int)) <|
      os (si s6 u1 ((iw (a2 + 2)).toNat) (gi s6 t 5)) fun s8 =>
      oc (0 ≤ iw (a2 + 3) ∧ iw (a2 + 3) < ((rN u1 : Nat) : Int)) <|
      os (si s8 u1 ((iw (a2 + 3)).toNat) (gi s8 t 6)) fun s10 =>
      l_Ta_put_50 t u1 a2 FU 0 s10)
    else (
      some (0, s0)))
noncomputable def l_Ta_bring_50 (t : Nat) (u1 : Nat) (y2 : Int) : Nat → Int → SS → OO
  | 0, _, _ => none
  | fu + 1, x3, s0 =>
    if 20 ≤ x3 then (
      some (0, s0))
    else (
      oc (0 ≤ iw ((iw (y2 + 4)) + x3) ∧ iw ((iw (y2 + 4)) + x3) < ((rN u1 : Nat) : Int)) <|
      oc (0 ≤ x3 ∧ x3 < 20) <|
      os (si s0 (t + 2) ((x3).toNat) (gi s0 u1 ((iw ((iw (y2 + 4)) + x3)).toNat))) fun s5 =>
      (l_Ta_bring_50 t u1 y2 fu) (iw (x3 + 1)) s5)
noncomputable def f_Ta_bring (t : Nat) (u1 : Nat) (a2 : Int) (s0 : SS) : OO :=
  if a2 < 0 then (
    some (0, s0))
  else (
    if a2 ≤ (iw (((rN u1 : Nat) : Int) - 24)) then (
      oc (0 ≤ a2 ∧ a2 < ((rN u1 : Nat) : Int)) <|
      os (si s0 t 3 (gi s0 u1 ((a2).toNat))) fun s4 =>
      oc (0 ≤ iw (a2 + 1) ∧ iw (a2 + 1) < ((rN u1 : Nat) : Int)) <|
      os (si s4 t 4 (gi s4 u1 ((iw (a2 + 1)).toNat))) fun s6 =>
      oc (0 ≤ iw (a2 + 2) ∧ iw (a2 + 2) < ((rN u1 : Nat) : Int)) <|
      os (si s6 t 5 (gi s6 u1 ((iw (a2 + 2)).toNat))) fun s8 =>
      oc (0 ≤ iw (a2 + 3) ∧ iw (a2 + 3) < ((rN u1 : Nat) : Int)) <|
      os (si s8 t 6 (gi s8 u1 ((iw (a2 + 3)).toNat))) fun s10 =>
      l_Ta_bring_50 t u1 a2 FU 0 s10)
    else (
      some (0, s0)))
noncomputable def f_St_begin (t : Nat) (a1 : Int) (s0 : SS) : OO :=
  ob (f_Ta_begin (t + 1) a1 s0) fun r2 s2 =>
  os (si s2 t 2 0) fun s3 =>
  os (si s3 t 3 0) fun s4 =>
  some (0, s4)
noncomputable def f_St_lengthOf (t : Nat) (a1 : Int) (s0 : SS) : OO :=
  ob (f_La_isWay 2 a1 s0) fun r2 s2 =>
  if r2 = 0 then (
    some (0, s2))
  else (
    oc (0 ≤ a1 ∧ a1 < 14) <|
    some (gi s2 8 ((a1).toNat), s2))
noncomputable def l_St_goOn_44 (t : Nat) (u1 : Nat) (u2 : Nat) (self0 : SS → OO) (y3 : Int) (y4 : Int) : Nat → SS → OO
  | 0, _ => none
  | fu + 1, s0 =>
    if y4 ≤ (gi s0 t 3) then (
      os (si s0 t 2 (iw ((gi s0 t 2) + 1))) fun s2 =>
      os (si s2 t 3 0) fun s3 =>
      self0 s3)
    else (
      os (si s0 t 3 (iw ((gi s0 t 3) + 1))) fun s4 =>
      oc (0 ≤ gi s4 t 2 ∧ gi s4 t 2 < 12) <|
      ob (f_Ta_sayOnWay (t + 1) u1 y3 (gi s4 t 3) (gi s4 (u2 + 2) ((gi s4 t 2).toNat)) s4) fun r8 s8 =>
      ob (f_Ta_isOver (t + 1) s8) fun r10 s10 =>
      if r10 = 0 then (
        (l_St_goOn_44 t u1 u2 self0 y3 y4 fu) s10)
      else (
        some (1, s10)))
noncomputable def l_St_goOn_0 (t : Nat) (u1 : Nat) (u2 : Nat) : Nat → SS → OO
  | 0, _ => none
  | fu + 1, s0 =>
    if (gi s0 t 2) < 0 then (
      some (0, s0))
    else (
      if (gi s0 u2 2) ≤ (gi s0 t 2) then (
        some (0, s0))
      else (
        if 12 ≤ (gi s0 t 2) then (
          some (0, s0))
        else (
          oc (0 ≤ gi s0 t 2 ∧ gi s0 t 2 < 12) <|
          ol (gi s0 (u2 + 1) ((gi s0 t 2).toNat)) fun x6_ =>
          ob (f_St_lengthOf t x6_ s0) fun r7 s7 =>
          l_St_goOn_44 t u1 u2 (l_St_goOn_0 t u1 u2 fu) x6_ r7 FU s7)))
noncomputable def f_St_goOn (t : Nat) (u1 : Nat) (u2 : Nat) (s0 : SS) : OO :=
  l_St_goOn_0 t u1 u2 FU s0
noncomputable def f_St_isAtEnd (t : Nat) (u1 : Nat) (s0 : SS) : OO :=
  ol (iw ((gi s0 u1 2) - 1)) fun x1_ =>
  if x1_ < (gi s0 t 2) then (
    some (1, s0))
  else (
    if x1_ < 0 then (
      some (1, s0))
    else (
      if x1_ < 12 then (
        if (gi s0 t 2) = x1_ then (
          oc (0 ≤ x1_ ∧ x1_ < 12) <|
          ob (f_St_lengthOf t (gi s0 (u1 + 1) ((x1_).toNat)) s0) fun r8 s8 =>
          if (gi s0 t 3) < r8 then (
            some (0, s8))
          else (
            some (1, s8)))
        else (
          some (0, s0)))
      else (
        some (1, s0))))
set_option maxRecDepth 20000 in
theorem m_Fo_clear {l : Launch} {D : va_G} {cs : Nat → ClassId} {aS aV : Nat} {A : Nat → Prop} {ad : Nat → Nat} {n : Nat} {nl : Nat → Nat → Bool} {out : Int × SS} (hw : w_WH n nl) {t : Nat} (ht : t < n) (hC : rC t = 2) {s0 : SS} (hs0 : rS s0) (hf : f_Fo_clear t s0 = some out) : w_MC l D cs aS aV A yX2_clear cX2_clear 1 0 rm_Fo_clear ad n nl [.ref (ad t)] s0 (w_Po ad n nl out) := by
  refine w_MC_of (by decide +kernel) (by decide) hs0 (Nat.le_of_ble_eq_true rfl) (fun K h hr => ?_)
  refine r_lv (lv' := [(0, .ref (ad t))]) rfl ?_
  unfold f_Fo_clear at hf
  refine r_rS h (fun hs0 => ?_)
  refine r_aload_n h dX2_clear_0 rfl 0 rfl ?_
  refine r_iconst h dX2_clear_1 ?_
  refine p_X2_18 h dX2_clear_2 ht hC (rIc rfl) ?_
  refine r_os hf (fun s1 hf => ?_)
  refine r_rS h (fun hs1 => ?_)
  refine r_aload_n h dX2_clear_5 rfl 0 rfl ?_
  refine r_iconst h dX2_clear_6 ?_
  refine p_X2_22 h dX2_clear_7 ht hC (rIc rfl) ?_
  refine r_os hf (fun s2 hf => ?_)
  refine r_rS h (fun hs2 => ?_)
  exact r_ret0 (x := 0) hr dX2_clear_10 hf
set_option maxRecDepth 20000 in
theorem m_Fo_isTold {l : Launch} {D : va_G} {cs : Nat → ClassId} {aS aV : Nat} {A : Nat → Prop} {ad : Nat → Nat} {n : Nat} {nl : Nat → Nat → Bool} {out : Int × SS} (hw : w_WH n nl) {t : Nat} (ht : t < n) (hC : rC t = 2) {s0 : SS} (hs0 : rS s0) (hf : f_Fo_isTold t s0 = some out) : w_MC l D cs aS aV A yX2_isTold cX2_isTold 1 2 rm_Fo_isTold ad n nl [.ref (ad t)] s0 (w_Po ad n nl out) := by
  refine w_MC_of (by decide +kernel) (by decide) hs0 (Nat.le_of_ble_eq_true rfl) (fun K h hr => ?_)
  refine r_lv (lv' := [(0, .ref (ad t))]) rfl ?_
  unfold f_Fo_isTold at hf
  refine r_rS h (fun hs0 => ?_)
  refine r_aload_n h dX2_isTold_0 rfl 0 rfl ?_
  refine g_X2_18 h dX2_isTold_1 ht hC ?_
  refine r_if_le (tgt := 11) h dX2_isTold_4 (by decide) (hs0.1 _ _) (fun hc1 => ?_) (fun hc1 => ?_)
  · have hf := ite_t hc1 hf
    refine r_iconst h dX2_isTold_11 ?_
    exact r_ret2 hr dX2_isTold_12 (Or.inl rfl) hf
  · have hf := ite_f hc1 hf
    refine r_iconst h dX2_isTold_7 ?_
    refine r_goto (tgt := 12) h dX2_isTold_8 (by decide) ?_
    exact r_ret2 hr dX2_isTold_12 (Or.inr rfl) hf
set_option maxRecDepth 20000 in
theorem m_Fo_add {l : Launch} {D : va_G} {cs : Nat → ClassId} {aS aV : Nat} {A : Nat → Prop} {ad : Nat → Nat} {n : Nat} {nl : Nat → Nat → Bool} {out : Int × SS} (hw : w_WH n nl) {t : Nat} (ht : t < n) (hC : rC t = 2) {a1 : Int} (ra1 : rI a1) {s0 : SS} (hs0 : rS s0) (hf : f_Fo_add t a1 s0 = some out) : w_MC l D cs aS aV A yX2_add cX2_add 2 0 rm_Fo_add ad n nl [.ref (ad t), .int (vI a1)] s0 (w_Po ad n nl out) := by
  refine w_MC_of (by decide +kernel) (by decide) hs0 (Nat.le_of_ble_eq_true rfl) (fun K h hr => ?_)
  refine r_lv (lv' := [(0, .ref (ad t)), (1, .int (vI a1))]) rfl ?_
  unfold f_Fo_add at hf
  refine r_rS h (fun hs0 => ?_)
  refine r_aload_n h dX2_add_0 rfl 0 rfl ?_
  refine g_X2_18 h dX2_add_1 ht hC ?_
  refine r_if_lt (tgt := 39) h dX2_add_4 (by decide) (hs0.1 _ _) (fun hc1 => ?_) (fun hc1 => ?_)
  · have hf := ite_t hc1 hf
    exact r_ret0 (x := 0) hr dX2_add_39 hf
  · have hf := ite_f hc1 hf
    refine r_aload_n h dX2_add_7 rfl 0 rfl ?_
    refine g_X2_18 h dX2_add_8 ht hC ?_
    refine r_aload_n h dX2_add_11 rfl 0 rfl ?_
    have hq2c := rf_2_0 _ hC
    have hq2 := w_ref hw ht hC (by decide) (k := 0) (by decide) hq2c.1
    refine g_X2_9 h dX2_add_12 ht hC hq2.1 ?_
    refine r_alen (N := 320) h dX2_add_15 hq2.2 hq2c.2.1 (Or.inr (Or.inl rfl)) (by rw [hq2c.2.2]; rfl) ?_
    refine r_icmp_ge (tgt := 39) h dX2_add_16 (by decide) (hs0.1 _ _) (rIc rfl) (fun hc3 => ?_) (fun hc3 => ?_)
    · have hf := ite_t hc3 hf
      exact r_ret0 (x := 0) hr dX2_add_39 hf
    · have hf := ite_f hc3 hf
      refine r_aload_n h dX2_add_19 rfl 0 rfl ?_
      have hq4c := rf_2_0 _ hC
      have hq4 := w_ref hw ht hC (by decide) (k := 0) (by decide) hq4c.1
      refine g_X2_9 h dX2_add_20 ht hC hq4.1 ?_
      refine r_aload_n h dX2_add_23 rfl 0 rfl ?_
      refine g_X2_18 h dX2_add_24 ht hC ?_
      refine r_iload_n h dX2_add_27 rfl 1 rfl ?_
      obtain ⟨hi5, hf⟩ := oc_some hf
      refine r_iast h dX2_add_28 hq4.2 hq4c.2.1 (hs0.1 _ _) (N := 320) (by rw [hq4c.2.2]; rfl) (j := (gi s0 t 2).toNat) rfl hi5 ra1 ?_
      refine r_os hf (fun s6 hf => ?_)
      refine r_rS h (fun hs6 => ?_)
      refine r_aload_n h dX2_add_29 rfl 0 rfl ?_
      refine r_dup h dX2_add_30 rfl ?_
      refine g_X2_18 h dX2_add_31 ht hC ?_
      refine r_iconst h dX2_add_34 ?_
      refine r_iadd h dX2_add_35 ?_
      refine p_X2_18 h dX2_add_36 ht hC (rI_iw _) ?_
      refine r_os hf (fun s7 hf => ?_)
      refine r_rS h (fun hs7 => ?_)
      exact r_ret0 (x := 0) hr dX2_add_39 hf
set_option maxRecDepth 20000 in
theorem m_Fo_addNumber {l : Launch} {D : va_G} {cs : Nat → ClassId} {aS aV : Nat} {A : Nat → Prop} {ad : Nat → Nat} {n : Nat} {nl : Nat → Nat → Bool} {out : Int × SS} (hw : w_WH n nl) {t : Nat} (ht : t < n) (hC : rC t = 2) {a1 : Int} (ra1 : rI a1) {s0 : SS} (hs0 : rS s0) (hf : f_Fo_addNumber t a1 s0 = some out) : w_MC l D cs aS aV A yX2_addNumber cX2_addNumber 2 0 rm_Fo_addNumber ad n nl [.ref (ad t), .int (vI a1)] s0 (w_Po ad n nl out) := by
  refine w_MC_of (by decide +kernel) (by decide) hs0 (Nat.le_of_ble_eq_true rfl) (fun K h hr => ?_)
  refine r_lv (lv' := [(0, .ref (ad t)), (1, .int (vI a1))]) rfl ?_
  unfold f_Fo_addNumber at hf
  refine r_rS h (fun hs0 => ?_)
  refine r_aload_n h dX2_addNumber_0 rfl 0 rfl ?_
  refine r_iload_n h dX2_addNumber_1 rfl 1 rfl ?_
  obtain ⟨r1, s1, hq1, hf⟩ := ob_some hf
  refine r_callV0 h [.int (vI a1)] dX2_addNumber_2 (fun hs => m_Fo_add hw ht hC ra1 hs hq1) ml_X2_25 cv_Fo_add rfl (co := 2) rfl (by decide) ht hC ⟨rfl, rfl⟩ ⟨Nat.le_of_ble_eq_true rfl, Nat.le_of_ble_eq_true rfl⟩ ⟨Nat.le_of_ble_eq_true rfl, Nat.le_of_ble_eq_true rfl⟩ (Nat.le_of_ble_eq_true rfl) rfl (fun hr1 hs1 => ?_)
  exact r_ret0 (x := 0) hr dX2_addNumber_5 hf
set_option maxRecDepth 20000 in
theorem m_Fo_addKnown {l : Launch} {D : va_G} {cs : Nat → ClassId} {aS aV : Nat} {A : Nat → Prop} {ad : Nat → Nat} {n : Nat} {nl : Nat → Nat → Bool} {out : Int × SS} (hw : w_WH n nl) {t : Nat} (ht : t < n) (hC : rC t = 2) {a1 : Int} (ra1 : rI a1) {s0 : SS} (hs0 : rS s0) (hf : f_Fo_addKnown t a1 s0 = some out) : w_MC l D cs aS aV A yX2_addKnown cX2_addKnown 2 0 rm_Fo_addKnown ad n nl [.ref (ad t), .int (vI a1)] s0 (w_Po ad n nl out) := by
  refine w_MC_of (by decide +kernel) (by decide) hs0 (Nat.le_of_ble_eq_true rfl) (fun K h hr => ?_)
  refine r_lv (lv' := [(0, .ref (ad t)), (1, .int (vI a1))]) rfl ?_
  unfold f_Fo_addKnown at hf
  refine r_rS h (fun hs0 => ?_)
  refine r_aload_n h dX2_addKnown_0 rfl 0 rfl ?_
  refine r_iconst h dX2_addKnown_1 ?_
  refine r_iload_n h dX2_addKnown_2 rfl 1 rfl ?_
  refine r_isub h dX2_addKnown_3 ?_
  obtain ⟨r1, s1, hq1, hf⟩ := ob_some hf
  refine r_callV0 h [.int (vI (iw ((-1) - a1)))] dX2_addKnown_4 (fun hs => m_Fo_add hw ht hC (rI_iw _) hs hq1) ml_X2_25 cv_Fo_add rfl (co := 2) rfl (by decide) ht hC ⟨rfl, rfl⟩ ⟨Nat.le_of_ble_eq_true rfl, Nat.le_of_ble_eq_true rfl⟩ ⟨Nat.le_of_ble_eq_true rfl, Nat.le_of_ble_eq_true rfl⟩ (Nat.le_of_ble_eq_true rfl) rfl (fun hr1 hs1 => ?_)
  exact r_ret0 (x := 0) hr dX2_addKnown_7 hf
set_option maxRecDepth 20000 in
theorem m_Fo_addOperator {l : Launch} {D : va_G} {cs : Nat → ClassId} {aS aV : Nat} {A : Nat → Prop} {ad : Nat → Nat} {n : Nat} {nl : Nat → Nat → Bool} {out : Int × SS} (hw : w_WH n nl) {t : Nat} (ht : t < n) (hC : rC t = 2) {a1 : Int} (ra1 : rI a1) {s0 : SS} (hs0 : rS s0) (hf : f_Fo_addOperator t a1 s0 = some out) : w_MC l D cs aS aV A yX2_addOperator cX2_addOperator 2 0 rm_Fo_addOperator ad n nl [.ref (ad t), .int (vI a1)] s0 (w_Po ad n nl out) := by
  refine w_MC_of (by decide +kernel) (by decide) hs0 (Nat.le_of_ble_eq_true rfl) (fun K h hr => ?_)
  refine r_lv (lv' := [(0, .ref (ad t)), (1, .int (vI a1))]) rfl ?_
  unfold f_Fo_addOperator at hf
  refine r_rS h (fun hs0 => ?_)
  refine r_aload_n h dX2_addOperator_0 rfl 0 rfl ?_
  refine r_iload_n h dX2_addOperator_1 rfl 1 rfl ?_
  refine r_ineg h dX2_addOperator_2 ?_
  obtain ⟨r1, s1, hq1, hf⟩ := ob_some hf
  refine r_callV0 h [.int (vI (iw (-a1)))] dX2_addOperator_3 (fun hs => m_Fo_add hw ht hC (rI_iw _) hs hq1) ml_X2_25 cv_Fo_add rfl (co := 2) rfl (by decide) ht hC ⟨rfl, rfl⟩ ⟨Nat.le_of_ble_eq_true rfl, Nat.le_of_ble_eq_true rfl⟩ ⟨Nat.le_of_ble_eq_true rfl, Nat.le_of_ble_eq_true rfl⟩ (Nat.le_of_ble_eq_true rfl) rfl (fun hr1 hs1 => ?_)
  exact r_ret0 (x := 0) hr dX2_addOperator_6 hf
set_option maxRecDepth 20000 in
theorem b_Fo_asksFor_2 {l : Launch} {D : va_G} {cs : Nat → ClassId} {aS aV : Nat} {A : Nat → Prop} {K : KT} {ad : Nat → Nat} {n : Nat} {nl : Nat → Nat → Bool} {out : Int × SS} (h : w_Cl l rm_Fo_asksFor D cs aS aV A cX2_asksFor 3 RX2 "asksFor" K) (hr : w_Rt 2 cX2_asksFor 0 0 (w_Po ad n nl out) K) (hw : w_WH n nl) {t : Nat} (ht : t < n) (hC : rC t = 2) {y1 : Int} (ry1 : rI y1) : ∀ (fu : Nat) (x2 : Int) (s0 : SS), rI x2 → l_Fo_asksFor_2 t y1 fu x2 s0 = some out → K ad n nl 0 0 2 [(0, .ref (ad t)), (1, .int (vI y1)), (2, .int (vI x2))] [] s0 := by
  intro fu
  induction fu with
  | zero =>
    intro x2 s0 rx2 hf
    rw [l_Fo_asksFor_2] at hf
    cases hf
  | succ fu ih =>
    intro x2 s0 rx2 hf
    rw [l_Fo_asksFor_2] at hf
    refine r_rS h (fun hs0 => ?_)
    refine r_iload_n h dX2_asksFor_2 rfl 2 rfl ?_
    refine r_aload_n h dX2_asksFor_3 rfl 0 rfl ?_
    refine g_X2_18 h dX2_asksFor_4 ht hC ?_
    refine r_icmp_ge (tgt := 39) h dX2_asksFor_7 (by decide) rx2 (hs0.1 _ _) (fun hc1 => ?_) (fun hc1 => ?_)
    · have hf := ite_t hc1 hf
      refine r_iconst h dX2_asksFor_39 ?_
      exact r_ret2 hr dX2_asksFor_40 (Or.inl rfl) hf
    · have hf := ite_f hc1 hf
      refine r_iload_n h dX2_asksFor_10 rfl 2 rfl ?_
      refine r_aload_n h dX2_asksFor_11 rfl 0 rfl ?_
      have hq2c := rf_2_0 _ hC
      have hq2 := w_ref hw ht hC (by decide) (k := 0) (by decide) hq2c.1
      refine g_X2_9 h dX2_asksFor_12 ht hC hq2.1 ?_
      refine r_alen (N := 320) h dX2_asksFor_15 hq2.2 hq2c.2.1 (Or.inr (Or.inl rfl)) (by rw [hq2c.2.2]; rfl) ?_
      refine r_icmp_ge (tgt := 39) h dX2_asksFor_16 (by decide) rx2 (rIc rfl) (fun hc3 => ?_) (fun hc3 => ?_)
      · have hf := ite_t hc3 hf
        refine r_iconst h dX2_asksFor_39 ?_
        exact r_ret2 hr dX2_asksFor_40 (Or.inl rfl) hf
      · have hf := ite_f hc3 hf
        refine r_aload_n h dX2_asksFor_19 rfl 0 rfl ?_
        have hq4c := rf_2_0 _ hC
        have hq4 := w_ref hw ht hC (by decide) (k := 0) (by decide) hq4c.1
        refine g_X2_9 h dX2_asksFor_20 ht hC hq4.1 ?_
        refine r_iload_n h dX2_asksFor_23 rfl 2 rfl ?_
        obtain ⟨hi5, hf⟩ := oc_some hf
        refine r_iald h dX2_asksFor_24 hq4.2 hq4c.2.1 rx2 (N := 320) (by rw [hq4c.2.2]; rfl) (j := (x2).toNat) rfl hi5 ?_
        refine r_iconst h dX2_asksFor_25 ?_
        refine r_iload_n h dX2_asksFor_26 rfl 1 rfl ?_
        refine r_isub h dX2_asksFor_27 ?_
        refine r_icmp_ne (tgt := 33) h dX2_asksFor_28 (by decide) (hs0.1 _ _) (rI_iw _) (fun hc6 => ?_) (fun hc6 => ?_)
        · have hf := ite_f hc6 hf
          refine r_iinc h [(2, .int (vI (iw (x2 + 1)))), (0, .ref (ad t)), (1, .int (vI y1))] dX2_asksFor_33 2 rfl (by decide) rfl ?_
          refine r_goto (tgt := 2) h dX2_asksFor_36 (by decide) ?_
          refine r_sub h [1, 2, 0] rfl ?_
          exact ih (iw (x2 + 1)) s0 (rI_iw _) hf
        · have hf := ite_nf hc6 hf
          refine r_iconst h dX2_asksFor_31 ?_
          exact r_ret2 hr dX2_asksFor_32 (Or.inr rfl) hf
set_option maxRecDepth 20000 in
theorem m_Fo_asksFor {l : Launch} {D : va_G} {cs : Nat → ClassId} {aS aV : Nat} {A : Nat → Prop} {ad : Nat → Nat} {n : Nat} {nl : Nat → Nat → Bool} {out : Int × SS} (hw : w_WH n nl) {t : Nat} (ht : t < n) (hC : rC t = 2) {a1 : Int} (ra1 : rI a1) {s0 : SS} (hs0 : rS s0) (hf : f_Fo_asksFor t a1 s0 = some out) : w_MC l D cs aS aV A yX2_asksFor cX2_asksFor 3 2 rm_Fo_asksFor ad n nl [.ref (ad t), .int (vI a1)] s0 (w_Po ad n nl out) := by
  refine w_MC_of (by decide +kernel) (by decide) hs0 (Nat.le_of_ble_eq_true rfl) (fun K h hr => ?_)
  refine r_lv (lv' := [(0, .ref (ad t)), (1, .int (vI a1))]) rfl ?_
  unfold f_Fo_asksFor at hf
  refine r_rS h (fun hs0 => ?_)
  refine r_iconst h dX2_asksFor_0 ?_
  refine r_istore_n h [(2, .int (vI 0)), (0, .ref (ad t)), (1, .int (vI a1))] dX2_asksFor_1 rfl (by decide) rfl ?_
  refine r_sub h [1, 2, 0] rfl ?_
  exact b_Fo_asksFor_2 h hr hw ht hC ra1 FU 0 s0 (rIc rfl) hf
set_option maxRecDepth 20000 in
theorem m_Fo_join {l : Launch} {D : va_G} {cs : Nat → ClassId} {aS aV : Nat} {A : Nat → Prop} {ad : Nat → Nat} {n : Nat} {nl : Nat → Nat → Bool} {out : Int × SS} (hw : w_WH n nl) {a1 : Int} (ra1 : rI a1) {a2 : Int} (ra2 : rI a2) {a3 : Int} (ra3 : rI a3) {s0 : SS} (hs0 : rS s0) (hf : f_Fo_join a1 a2 a3 s0 = some out) : w_MC l D cs aS aV A yX2_join cX2_join 3 1 rm_Fo_join ad n nl [.int (vI a1), .int (vI a2), .int (vI a3)] s0 (w_Po ad n nl out) := by
  refine w_MC_of (by decide +kernel) (by decide) hs0 (Nat.le_of_ble_eq_true rfl) (fun K h hr => ?_)
  refine r_lv (lv' := [(0, .int (vI a1)), (1, .int (vI a2)), (2, .int (vI a3))]) rfl ?_
  unfold f_Fo_join at hf
  refine r_rS h (fun hs0 => ?_)
  refine r_iload_n h dX2_join_0 rfl 0 rfl ?_
  by_cases hc1 : a1 = 37
  · have hf := ite_t hc1 hf
    refine r_lookup (tgt := 116) (off := 115) h dX2_join_1 (by decide) ra1 (by rw [hc1]; rfl) (by decide) ?_
    refine r_iload_n h dX2_join_116 rfl 2 rfl ?_
    refine r_if_ne (tgt := 124) h dX2_join_117 (by decide) ra3 (fun hc2 => ?_) (fun hc2 => ?_)
    · have hf := ite_f hc2 hf
      refine r_iload_n h dX2_join_124 rfl 1 rfl ?_
      refine r_iload_n h dX2_join_125 rfl 2 rfl ?_
      obtain ⟨h03, hf⟩ := oc_some hf
      refine r_irem h dX2_join_126 ra2 ra3 h03 ?_
      exact r_ret1 hr dX2_join_127 (rI_tmod ra2 ra3) hf
    · have hf := ite_nf hc2 hf
      refine r_iconst h dX2_join_120 ?_
      refine r_goto (tgt := 127) h dX2_join_121 (by decide) ?_
      exact r_ret1 hr dX2_join_127 (rIc rfl) hf
  · have hf := ite_f hc1 hf
    by_cases hc4 : a1 = 42
    · have hf := ite_t hc4 hf
      refine r_lookup (tgt := 100) (off := 99) h dX2_join_1 (by decide) ra1 (by rw [hc4]; rfl) (by decide) ?_
      refine r_iload_n h dX2_join_100 rfl 1 rfl ?_
      refine r_iload_n h dX2_join_101 rfl 2 rfl ?_
      refine r_imul h dX2_join_102 ?_
      exact r_ret1 hr dX2_join_103 (rI_iw _) hf
    · have hf := ite_f hc4 hf
      by_cases hc5 : a1 = 43
      · have hf := ite_t hc5 hf
        refine r_lookup (tgt := 92) (off := 91) h dX2_join_1 (by decide) ra1 (by rw [hc5]; rfl) (by decide) ?_
        refine r_iload_n h dX2_join_92 rfl 1 rfl ?_
        refine r_iload_n h dX2_join_93 rfl 2 rfl ?_
        refine r_iadd h dX2_join_94 ?_
        exact r_ret1 hr dX2_join_95 (rI_iw _) hf
      · have hf := ite_f hc5 hf
        by_cases hc6 : a1 = 45
        · have hf := ite_t hc6 hf
          refine r_lookup (tgt := 96) (off := 95) h dX2_join_1 (by decide) ra1 (by rw [hc6]; rfl) (by decide) ?_
          refine r_iload_n h dX2_join_96 rfl 1 rfl ?_
          refine r_iload_n h dX2_join_97 rfl 2 rfl ?_
          refine r_isub h dX2_join_98 ?_
          exact r_ret1 hr dX2_join_99 (rI_iw _) hf
        · have hf := ite_f hc6 hf
          by_cases hc7 : a1 = 47
          · have hf := ite_t hc7 hf
            refine r_lookup (tgt := 104) (off := 103) h dX2_join_1 (by decide) ra1 (by rw [hc7]; rfl) (by decide) ?_
            refine r_iload_n h dX2_join_104 rfl 2 rfl ?_
            refine r_if_ne (tgt := 112) h dX2_join_105 (by decide) ra3 (fun hc8 => ?_) (fun hc8 => ?_)
            · have hf := ite_f hc8 hf
              refine r_iload_n h dX2_join_112 rfl 1 rfl ?_
              refine r_iload_n h dX2_join_113 rfl 2 rfl ?_
              obtain ⟨h09, hf⟩ := oc_some hf
              refine r_idiv h dX2_join_114 ra2 ra3 h09 ?_
              exact r_ret1 hr dX2_join_115 (rI_iw _) hf
            · have hf := ite_nf hc8 hf
              refine r_iconst h dX2_join_108 ?_
              refine r_goto (tgt := 115) h dX2_join_109 (by decide) ?_
              exact r_ret1 hr dX2_join_115 (rIc rfl) hf
          · have hf := ite_f hc7 hf
            by_cases hc10 : a1 = 60
            · have hf := ite_t hc10 hf
              refine r_lookup (tgt := 128) (off := 127) h dX2_join_1 (by decide) ra1 (by rw [hc10]; rfl) (by decide) ?_
              refine r_iload_n h dX2_join_128 rfl 1 rfl ?_
              refine r_iload_n h dX2_join_129 rfl 2 rfl ?_
              refine r_icmp_ge (tgt := 137) h dX2_join_130 (by decide) ra2 ra3 (fun hc11 => ?_) (fun hc11 => ?_)
              · have hf := ite_t hc11 hf
                refine r_iconst h dX2_join_137 ?_
                exact r_ret1 hr dX2_join_138 (rIc rfl) hf
              · have hf := ite_f hc11 hf
                refine r_iconst h dX2_join_133 ?_
                refine r_goto (tgt := 138) h dX2_join_134 (by decide) ?_
                exact r_ret1 hr dX2_join_138 (rIc rfl) hf
            · have hf := ite_f hc10 hf
              by_cases hc12 : a1 = 61
              · have hf := ite_t hc12 hf
                refine r_lookup (tgt := 150) (off := 149) h dX2_join_1 (by decide) ra1 (by rw [hc12]; rfl) (by decide) ?_
                refine r_iload_n h dX2_join_150 rfl 1 rfl ?_
                refine r_iload_n h dX2_join_151 rfl 2 rfl ?_
                refine r_icmp_ne (tgt := 159) h dX2_join_152 (by decide) ra2 ra3 (fun hc13 => ?_) (fun hc13 => ?_)
                · have hf := ite_f hc13 hf
                  refine r_iconst h dX2_join_159 ?_
                  exact r_ret1 hr dX2_join_160 (rIc rfl) hf
                · have hf := ite_nf hc13 hf
                  refine r_iconst h dX2_join_155 ?_
                  refine r_goto (tgt := 160) h dX2_join_156 (by decide) ?_
                  exact r_ret1 hr dX2_join_160 (rIc rfl) hf
              · have hf := ite_f hc12 hf
                by_cases hc14 : a1 = 62
                · have hf := ite_t hc14 hf
                  refine r_lookup (tgt := 139) (off := 138) h dX2_join_1 (by decide) ra1 (by rw [hc14]; rfl) (by decide) ?_
                  refine r_iload_n h dX2_join_139 rfl 1 rfl ?_
                  refine r_iload_n h dX2_join_140 rfl 2 rfl ?_
                  refine r_icmp_le (tgt := 148) h dX2_join_141 (by decide) ra2 ra3 (fun hc15 => ?_) (fun hc15 => ?_)
                  · have hf := ite_t hc15 hf
                    refine r_iconst h dX2_join_148 ?_
                    exact r_ret1 hr dX2_join_149 (rIc rfl) hf
                  · have hf := ite_f hc15 hf
                    refine r_iconst h dX2_join_144 ?_
                    refine r_goto (tgt := 149) h dX2_join_145 (by decide) ?_
                    exact r_ret1 hr dX2_join_149 (rIc rfl) hf
                · have hf := ite_f hc14 hf
                  by_cases hc16 : a1 = 271
                  · have hf := ite_t hc16 hf
                    refine r_lookup (tgt := 175) (off := 174) h dX2_join_1 (by decide) ra1 (by rw [hc16]; rfl) (by decide) ?_
                    refine r_iload_n h dX2_join_175 rfl 1 rfl ?_
                    refine r_if_ne (tgt := 183) h dX2_join_176 (by decide) ra2 (fun hc17 => ?_) (fun hc17 => ?_)
                    · have hf := ite_f hc17 hf
                      refine r_iconst h dX2_join_183 ?_
                      refine r_goto (tgt := 188) h dX2_join_184 (by decide) ?_
                      exact r_ret1 hr dX2_join_188 (rIc rfl) hf
                    · have hf := ite_nf hc17 hf
                      refine r_iload_n h dX2_join_179 rfl 2 rfl ?_
                      refine r_if_eq (tgt := 187) h dX2_join_180 (by decide) ra3 (fun hc18 => ?_) (fun hc18 => ?_)
                      · have hf := ite_t hc18 hf
                        refine r_iconst h dX2_join_187 ?_
                        exact r_ret1 hr dX2_join_188 (rIc rfl) hf
                      · have hf := ite_f hc18 hf
                        refine r_iconst h dX2_join_183 ?_
                        refine r_goto (tgt := 188) h dX2_join_184 (by decide) ?_
                        exact r_ret1 hr dX2_join_188 (rIc rfl) hf
                  · have hf := ite_f hc16 hf
                    by_cases hc19 : a1 = 272
                    · have hf := ite_t hc19 hf
                      refine r_lookup (tgt := 161) (off := 160) h dX2_join_1 (by decide) ra1 (by rw [hc19]; rfl) (by decide) ?_
                      refine r_iload_n h dX2_join_161 rfl 1 rfl ?_
                      refine r_if_eq (tgt := 173) h dX2_join_162 (by decide) ra2 (fun hc20 => ?_) (fun hc20 => ?_)
                      · have hf := ite_t hc20 hf
                        refine r_iconst h dX2_join_173 ?_
                        exact r_ret1 hr dX2_join_174 (rIc rfl) hf
                      · have hf := ite_f hc20 hf
                        refine r_iload_n h dX2_join_165 rfl 2 rfl ?_
                        refine r_if_eq (tgt := 173) h dX2_join_166 (by decide) ra3 (fun hc21 => ?_) (fun hc21 => ?_)
                        · have hf := ite_t hc21 hf
                          refine r_iconst h dX2_join_173 ?_
                          exact r_ret1 hr dX2_join_174 (rIc rfl) hf
                        · have hf := ite_f hc21 hf
                          refine r_iconst h dX2_join_169 ?_
                          refine r_goto (tgt := 174) h dX2_join_170 (by decide) ?_
                          exact r_ret1 hr dX2_join_174 (rIc rfl) hf
                    · have hf := ite_f hc19 hf
                      refine r_lookup (tgt := 189) (off := 188) h dX2_join_1 (by decide) ra1 (by simp only [Op.lookupswitch.offset_cons, Op.lookupswitch.offset_nil]; rw [if_neg (fun z => hc1 z.symm)]; rw [if_neg (fun z => hc4 z.symm)]; rw [if_neg (fun z => hc5 z.symm)]; rw [if_neg (fun z => hc6 z.symm)]; rw [if_neg (fun z => hc7 z.symm)]; rw [if_neg (fun z => hc10 z.symm)]; rw [if_neg (fun z => hc12 z.symm)]; rw [if_neg (fun z => hc14 z.symm)]; rw [if_neg (fun z => hc16 z.symm)]; rw [if_neg (fun z => hc19 z.symm)]) (by decide) ?_
                      refine r_iconst h dX2_join_189 ?_
                      exact r_ret1 hr dX2_join_190 (rIc rfl) hf
set_option maxRecDepth 20000 in
theorem b_Fo_answer_81 {l : Launch} {D : va_G} {cs : Nat → ClassId} {aS aV : Nat} {A : Nat → Prop} {K : KT} {ad : Nat → Nat} {n : Nat} {nl : Nat → Nat → Bool} {out : Int × SS} (h : w_Cl l rm_Fo_answer D cs aS aV A cX2_answer 6 RX2 "answer" K) (hr : w_Rt 1 cX2_answer 0 0 (w_Po ad n nl out) K) (hw : w_WH n nl) {t : Nat} (ht : t < n) (hC : rC t = 2) {u1 : Nat} (pu1 : u1 < n) (pc1 : rC u1 = 14) (x2 : Int) (x3 : Int) (x4 : Int) (z1 : Int) (z2 : Int) (self5 : Int → Int → SS → OO) (hself5 : ∀ (x3 : Int) (x4 : Int) (τ : SS), rI x3 → rI x4 → self5 x3 x4 τ = some out → K ad n nl 0 0 5 [(0, .ref (ad t)), (1, .ref (ad u1)), (2, .int (vI x2)), (3, .int (vI x3)), (4, .int (vI x4))] [] τ) (s0 : SS) (rx2 : rI x2) (rx3 : rI x3) (rx4 : rI x4) (rz1 : rI z1) (rz2 : rI z2) (hf : j_Fo_answer_81 t u1 self5 x2 x3 x4 z1 z2 s0 = some out) : K ad n nl 0 0 81 [(0, .ref (ad t)), (1, .ref (ad u1)), (2, .int (vI x2)), (3, .int (vI x3)), (4, .int (vI x4))] [.int (vI z2), .int (vI z1), .ref (ad (t + 2))] s0 := by
  unfold j_Fo_answer_81 at hf
  have qt_2c := rf_2_1 _ hC
  have qt_2 := w_ref hw ht hC (by decide) (k := 1) (by decide) qt_2c.1
  refine r_rS h (fun hs0 => ?_)
  obtain ⟨hi1, hf⟩ := oc_some hf
  refine r_iast h dX2_answer_81 qt_2.2 qt_2c.2.1 rz1 (N := 32) (by rw [qt_2c.2.2]; rfl) (j := (z1).toNat) rfl hi1 rz2 ?_
  refine r_os hf (fun s2 hf => ?_)
  refine r_rS h (fun hs2 => ?_)
  refine r_iinc h [(3, .int (vI (iw (x3 + 1)))), (0, .ref (ad t)), (1, .ref (ad u1)), (2, .int (vI x2)), (4, .int (vI x4))] dX2_answer_82 3 rfl (by decide) rfl ?_
  refine r_goto (tgt := 168) h dX2_answer_85 (by decide) ?_
  refine r_iinc h [(4, .int (vI (iw (x4 + 1)))), (3, .int (vI (iw (x3 + 1)))), (0, .ref (ad t)), (1, .ref (ad u1)), (2, .int (vI x2))] dX2_answer_168 4 rfl (by decide) rfl ?_
  refine r_goto (tgt := 5) h dX2_answer_171 (by decide) ?_
  refine r_sub h [2, 3, 4, 1, 0] rfl ?_
  exact hself5 (iw (x3 + 1)) (iw (x4 + 1)) s2 (rI_iw _) (rI_iw _) hf
set_option maxRecDepth 20000 in
theorem b_Fo_answer_126 {l : Launch} {D : va_G} {cs : Nat → ClassId} {aS aV : Nat} {A : Nat → Prop} {K : KT} {ad : Nat → Nat} {n : Nat} {nl : Nat → Nat → Bool} {out : Int × SS} (h : w_Cl l rm_Fo_answer D cs aS aV A cX2_answer 6 RX2 "answer" K) (hr : w_Rt 1 cX2_answer 0 0 (w_Po ad n nl out) K) (hw : w_WH n nl) {t : Nat} (ht : t < n) (hC : rC t = 2) {u1 : Nat} (pu1 : u1 < n) (pc1 : rC u1 = 14) (x2 : Int) (x3 : Int) (x4 : Int) (z1 : Int) (z2 : Int) (self5 : Int → Int → SS → OO) (hself5 : ∀ (x3 : Int) (x4 : Int) (τ : SS), rI x3 → rI x4 → self5 x3 x4 τ = some out → K ad n nl 0 0 5 [(0, .ref (ad t)), (1, .ref (ad u1)), (2, .int (vI x2)), (3, .int (vI x3)), (4, .int (vI x4))] [] τ) (s0 : SS) (rx2 : rI x2) (rx3 : rI x3) (rx4 : rI x4) (rz1 : rI z1) (rz2 : rI z2) (hf : j_Fo_answer_126 t u1 self5 x2 x3 x4 z1 z2 s0 = some out) : K ad n nl 0 0 126 [(0, .ref (ad t)), (1, .ref (ad u1)), (2, .int (vI x2)), (3, .int (vI x3)), (4, .int (vI x4))] [.int (vI z2), .int (vI z1), .ref (ad (t + 2))] s0 := by
  unfold j_Fo_answer_126 at hf
  have qt_2c := rf_2_1 _ hC
  have qt_2 := w_ref hw ht hC (by decide) (k := 1) (by decide) qt_2c.1
  refine r_rS h (fun hs0 => ?_)
  obtain ⟨hi1, hf⟩ := oc_some hf
  refine r_iast h dX2_answer_126 qt_2.2 qt_2c.2.1 rz1 (N := 32) (by rw [qt_2c.2.2]; rfl) (j := (z1).toNat) rfl hi1 rz2 ?_
  refine r_os hf (fun s2 hf => ?_)
  refine r_rS h (fun hs2 => ?_)
  refine r_goto (tgt := 168) h dX2_answer_127 (by decide) ?_
  refine r_iinc h [(4, .int (vI (iw (x4 + 1)))), (0, .ref (ad t)), (1, .ref (ad u1)), (2, .int (vI x2)), (3, .int (vI x3))] dX2_answer_168 4 rfl (by decide) rfl ?_
  refine r_goto (tgt := 5) h dX2_answer_171 (by decide) ?_
  refine r_sub h [1, 2, 3, 4, 0] rfl ?_
  exact hself5 x3 (iw (x4 + 1)) s2 rx3 (rI_iw _) hf
set_option maxRecDepth 20000 in
theorem b_Fo_answer_174 {l : Launch} {D : va_G} {cs : Nat → ClassId} {aS aV : Nat} {A : Nat → Prop} {K : KT} {ad : Nat → Nat} {n : Nat} {nl : Nat → Nat → Bool} {out : Int × SS} (h : w_Cl l rm_Fo_answer D cs aS aV A cX2_answer 6 RX2 "answer" K) (hr : w_Rt 1 cX2_answer 0 0 (w_Po ad n nl out) K) (hw : w_WH n nl) {t : Nat} (ht : t < n) (hC : rC t = 2) {u1 : Nat} (pu1 : u1 < n) (pc1 : rC u1 = 14) (x2 : Int) (x3 : Int) (s0 : SS) (rx2 : rI x2) (rx3 : rI x3) (hf : j_Fo_answer_174 t u1 x2 x3 s0 = some out) : K ad n nl 0 0 174 [(0, .ref (ad t)), (2, .int (vI x2)), (3, .int (vI x3))] [] s0 := by
  unfold j_Fo_answer_174 at hf
  refine r_rS h (fun hs0 => ?_)
  refine r_iload_n h dX2_answer_174 rfl 2 rfl ?_
  refine r_iconst h dX2_answer_175 ?_
  refine r_icmp_ne (tgt := 188) h dX2_answer_176 (by decide) rx3 (rIc rfl) (fun hc1 => ?_) (fun hc1 => ?_)
  · have hf := ite_f hc1 hf
    refine r_iload_n h dX2_answer_188 rfl 1 rfl ?_
    exact r_ret1 hr dX2_answer_189 rx2 hf
  · have hf := ite_nf hc1 hf
    refine r_aload_n h dX2_answer_179 rfl 0 rfl ?_
    have hq2c := rf_2_1 _ hC
    have hq2 := w_ref hw ht hC (by decide) (k := 1) (by decide) hq2c.1
    refine g_X2_15 h dX2_answer_180 ht hC hq2.1 ?_
    refine r_iconst h dX2_answer_183 ?_
    refine r_iald h dX2_answer_184 hq2.2 hq2c.2.1 (rIc rfl) (N := 32) (by rw [hq2c.2.2]; rfl) (j := 0) rfl (by decide) ?_
    refine r_goto (tgt := 189) h dX2_answer_185 (by decide) ?_
    exact r_ret1 hr dX2_answer_189 (hs0.1 _ _) hf
set_option maxRecDepth 20000 in
theorem b_Fo_answer_5 {l : Launch} {D : va_G} {cs : Nat → ClassId} {aS aV : Nat} {A : Nat → Prop} {K : KT} {ad : Nat → Nat} {n : Nat} {nl : Nat → Nat → Bool} {out : Int × SS} (h : w_Cl l rm_Fo_answer D cs aS aV A cX2_answer 6 RX2 "answer" K) (hr : w_Rt 1 cX2_answer 0 0 (w_Po ad n nl out) K) (hw : w_WH n nl) {t : Nat} (ht : t < n) (hC : rC t = 2) {u1 : Nat} (pu1 : u1 < n) (pc1 : rC u1 = 14) {y2 : Int} (ry2 : rI y2) : ∀ (fu : Nat) (x3 : Int) (x4 : Int) (s0 : SS), rI x3 → rI x4 → l_Fo_answer_5 t u1 y2 fu x3 x4 s0 = some out → K ad n nl 0 0 5 [(0, .ref (ad t)), (1, .ref (ad u1)), (2, .int (vI y2)), (3, .int (vI x3)), (4, .int (vI x4))] [] s0 := by
  intro fu
  induction fu with
  | zero =>
    intro x3 x4 s0 rx3 rx4 hf
    rw [l_Fo_answer_5] at hf
    cases hf
  | succ fu ih =>
    intro x3 x4 s0 rx3 rx4 hf
    rw [l_Fo_answer_5] at hf
    refine r_rS h (fun hs0 => ?_)
    refine r_iload h dX2_answer_5 4 rfl ?_
    refine r_aload_n h dX2_answer_7 rfl 0 rfl ?_
    refine g_X2_18 h dX2_answer_8 ht hC ?_
    refine r_icmp_ge (tgt := 174) h dX2_answer_11 (by decide) rx4 (hs0.1 _ _) (fun hc1 => ?_) (fun hc1 => ?_)
    · have hf := ite_t hc1 hf
      refine r_sub h [0, 2, 3] rfl ?_
      exact b_Fo_answer_174 h hr hw ht hC pu1 pc1 y2 x3 s0 ry2 rx3 hf
    · have hf := ite_f hc1 hf
      refine r_iload h dX2_answer_14 4 rfl ?_
      refine r_aload_n h dX2_answer_16 rfl 0 rfl ?_
      have hq2c := rf_2_0 _ hC
      have hq2 := w_ref hw ht hC (by decide) (k := 0) (by decide) hq2c.1
      refine g_X2_9 h dX2_answer_17 ht hC hq2.1 ?_
      refine r_alen (N := 320) h dX2_answer_20 hq2.2 hq2c.2.1 (Or.inr (Or.inl rfl)) (by rw [hq2c.2.2]; rfl) ?_
      refine r_icmp_ge (tgt := 174) h dX2_answer_21 (by decide) rx4 (rIc rfl) (fun hc3 => ?_) (fun hc3 => ?_)
      · have hf := ite_t hc3 hf
        refine r_sub h [0, 2, 3] rfl ?_
        exact b_Fo_answer_174 h hr hw ht hC pu1 pc1 y2 x3 s0 ry2 rx3 hf
      · have hf := ite_f hc3 hf
        refine r_aload_n h dX2_answer_24 rfl 0 rfl ?_
        have hq4c := rf_2_0 _ hC
        have hq4 := w_ref hw ht hC (by decide) (k := 0) (by decide) hq4c.1
        refine g_X2_9 h dX2_answer_25 ht hC hq4.1 ?_
        refine r_iload h dX2_answer_28 4 rfl ?_
        obtain ⟨hi5, hf⟩ := oc_some hf
        refine r_iald h dX2_answer_30 hq4.2 hq4c.2.1 rx4 (N := 320) (by rw [hq4c.2.2]; rfl) (j := (x4).toNat) rfl hi5 ?_
        refine r_ol hf (hs0.1 _ _) (fun x6_ rx6_ hf => ?_)
        refine r_istore h [(5, .int (vI x6_)), (0, .ref (ad t)), (1, .ref (ad u1)), (2, .int (vI y2)), (3, .int (vI x3)), (4, .int (vI x4))] dX2_answer_31 (by decide) rfl ?_
        refine r_iload h dX2_answer_33 0 rfl ?_
        refine r_bipush h dX2_answer_35 (by decide) ?_
        refine r_icmp_lt (tgt := 88) h dX2_answer_37 (by decide) rx6_ (rIc rfl) (fun hc7 => ?_) (fun hc7 => ?_)
        · have hf := ite_t hc7 hf
          refine r_iload h dX2_answer_88 0 rfl ?_
          refine r_sipush h dX2_answer_90 (by decide) ?_
          refine r_icmp_ne (tgt := 130) h dX2_answer_93 (by decide) rx6_ (rIc rfl) (fun hc8 => ?_) (fun hc8 => ?_)
          · have hf := ite_f hc8 hf
            refine r_iload_n h dX2_answer_130 rfl 4 rfl ?_
            refine r_iconst h dX2_answer_131 ?_
            refine r_icmp_ge (tgt := 137) h dX2_answer_132 (by decide) rx3 (rIc rfl) (fun hc9 => ?_) (fun hc9 => ?_)
            · have hf := ite_t hc9 hf
              refine r_iinc h [(3, .int (vI (iw (x3 + (-1))))), (5, .int (vI x6_)), (0, .ref (ad t)), (1, .ref (ad u1)), (2, .int (vI y2)), (4, .int (vI x4))] dX2_answer_137 4 rfl (by decide) rfl ?_
              refine r_aload_n h dX2_answer_140 rfl 2 rfl ?_
              have hq10c := rf_2_1 _ hC
              have hq10 := w_ref hw ht hC (by decide) (k := 1) (by decide) hq10c.1
              refine g_X2_15 h dX2_answer_141 ht hC hq10.1 ?_
              refine r_iload_n h dX2_answer_144 rfl 0 rfl ?_
              refine r_iconst h dX2_answer_145 ?_
              refine r_isub h dX2_answer_146 ?_
              refine r_iload h dX2_answer_147 1 rfl ?_
              refine r_ineg h dX2_answer_149 ?_
              refine r_aload_n h dX2_answer_150 rfl 2 rfl ?_
              have hq11c := rf_2_1 _ hC
              have hq11 := w_ref hw ht hC (by decide) (k := 1) (by decide) hq11c.1
              refine g_X2_15 h dX2_answer_151 ht hC hq11.1 ?_
              refine r_iload_n h dX2_answer_154 rfl 0 rfl ?_
              refine r_iconst h dX2_answer_155 ?_
              refine r_isub h dX2_answer_156 ?_
              obtain ⟨hi12, hf⟩ := oc_some hf
              refine r_iald h dX2_answer_157 hq11.2 hq11c.2.1 (rI_iw _) (N := 32) (by rw [hq11c.2.2]; rfl) (j := (iw ((iw (x3 + (-1))) - 1)).toNat) rfl hi12 ?_
              refine r_aload_n h dX2_answer_158 rfl 2 rfl ?_
              have hq13c := rf_2_1 _ hC
              have hq13 := w_ref hw ht hC (by decide) (k := 1) (by decide) hq13c.1
              refine g_X2_15 h dX2_answer_159 ht hC hq13.1 ?_
              refine r_iload_n h dX2_answer_162 rfl 0 rfl ?_
              obtain ⟨hi14, hf⟩ := oc_some hf
              refine r_iald h dX2_answer_163 hq13.2 hq13c.2.1 (rI_iw _) (N := 32) (by rw [hq13c.2.2]; rfl) (j := (iw (x3 + (-1))).toNat) rfl hi14 ?_
              obtain ⟨r15, s15, hq15, hf⟩ := ob_some hf
              refine r_callS1 h [.int (vI (iw (-x6_))), .int (vI (gi s0 (t + 2) ((iw ((iw (x3 + (-1))) - 1)).toNat))), .int (vI (gi s0 (t + 2) ((iw (x3 + (-1))).toNat)))] dX2_answer_164 (fun hs => m_Fo_join hw (rI_iw _) (hs0.1 _ _) (hs0.1 _ _) hs hq15) ml_X2_29 cv_Fo_join rfl ⟨rfl, rfl⟩ ⟨Nat.le_of_ble_eq_true rfl, Nat.le_of_ble_eq_true rfl⟩ ⟨Nat.le_of_ble_eq_true rfl, Nat.le_of_ble_eq_true rfl⟩ (Nat.le_of_ble_eq_true rfl) rfl (fun hr15 hs15 => ?_)
              obtain ⟨hi16, hf⟩ := oc_some hf
              refine r_iast h dX2_answer_167 hq10.2 hq10c.2.1 (rI_iw _) (N := 32) (by rw [hq10c.2.2]; rfl) (j := (iw ((iw (x3 + (-1))) - 1)).toNat) rfl hi16 hr15 ?_
              refine r_os hf (fun s17 hf => ?_)
              refine r_rS h (fun hs17 => ?_)
              refine r_iinc h [(4, .int (vI (iw (x4 + 1)))), (3, .int (vI (iw (x3 + (-1))))), (5, .int (vI x6_)), (0, .ref (ad t)), (1, .ref (ad u1)), (2, .int (vI y2))] dX2_answer_168 5 rfl (by decide) rfl ?_
              refine r_goto (tgt := 5) h dX2_answer_171 (by decide) ?_
              refine r_sub h [3, 4, 5, 1, 0] rfl ?_
              exact ih (iw (x3 + (-1))) (iw (x4 + 1)) s17 (rI_iw _) (rI_iw _) hf
            · have hf := ite_f hc9 hf
              refine r_iload_n h dX2_answer_135 rfl 3 rfl ?_
              exact r_ret1 hr dX2_answer_136 ry2 hf
          · have hf := ite_nf hc8 hf
            refine r_iload_n h dX2_answer_96 rfl 4 rfl ?_
            refine r_iconst h dX2_answer_97 ?_
            refine r_icmp_ge (tgt := 103) h dX2_answer_98 (by decide) rx3 (rIc rfl) (fun hc18 => ?_) (fun hc18 => ?_)
            · have hf := ite_t hc18 hf
              refine r_aload_n h dX2_answer_103 rfl 1 rfl ?_
              have hq19c := rf_2_1 _ hC
              have hq19 := w_ref hw ht hC (by decide) (k := 1) (by decide) hq19c.1
              refine g_X2_15 h dX2_answer_104 ht hC hq19.1 ?_
              refine r_iload_n h dX2_answer_107 rfl 4 rfl ?_
              refine r_iconst h dX2_answer_108 ?_
              refine r_isub h dX2_answer_109 ?_
              refine r_aload_n h dX2_answer_110 rfl 1 rfl ?_
              have hq20c := rf_2_1 _ hC
              have hq20 := w_ref hw ht hC (by decide) (k := 1) (by decide) hq20c.1
              refine g_X2_15 h dX2_answer_111 ht hC hq20.1 ?_
              refine r_iload_n h dX2_answer_114 rfl 4 rfl ?_
              refine r_iconst h dX2_answer_115 ?_
              refine r_isub h dX2_answer_116 ?_
              obtain ⟨hi21, hf⟩ := oc_some hf
              refine r_iald h dX2_answer_117 hq20.2 hq20c.2.1 (rI_iw _) (N := 32) (by rw [hq20c.2.2]; rfl) (j := (iw (x3 - 1)).toNat) rfl hi21 ?_
              refine r_if_ne (tgt := 125) h dX2_answer_118 (by decide) (hs0.1 _ _) (fun hc22 => ?_) (fun hc22 => ?_)
              · have hf := ite_f hc22 hf
                refine r_iconst h dX2_answer_125 ?_
                refine r_sub h [1, 2, 3, 4, 5] rfl ?_
                exact b_Fo_answer_126 h hr hw ht hC pu1 pc1 y2 x3 x4 (iw (x3 - 1)) 0 (l_Fo_answer_5 t u1 y2 fu) ih s0 ry2 rx3 rx4 (rI_iw _) (rIc rfl) hf
              · have hf := ite_nf hc22 hf
                refine r_iconst h dX2_answer_121 ?_
                refine r_goto (tgt := 126) h dX2_answer_122 (by decide) ?_
                refine r_sub h [1, 2, 3, 4, 5] rfl ?_
                exact b_Fo_answer_126 h hr hw ht hC pu1 pc1 y2 x3 x4 (iw (x3 - 1)) 1 (l_Fo_answer_5 t u1 y2 fu) ih s0 ry2 rx3 rx4 (rI_iw _) (rIc rfl) hf
            · have hf := ite_f hc18 hf
              refine r_iload_n h dX2_answer_101 rfl 3 rfl ?_
              exact r_ret1 hr dX2_answer_102 ry2 hf
        · have hf := ite_f hc7 hf
          refine r_iload_n h dX2_answer_40 rfl 4 rfl ?_
          refine r_aload_n h dX2_answer_41 rfl 1 rfl ?_
          have hq23c := rf_2_1 _ hC
          have hq23 := w_ref hw ht hC (by decide) (k := 1) (by decide) hq23c.1
          refine g_X2_15 h dX2_answer_42 ht hC hq23.1 ?_
          refine r_alen (N := 32) h dX2_answer_45 hq23.2 hq23c.2.1 (Or.inr (Or.inl rfl)) (by rw [hq23c.2.2]; rfl) ?_
          refine r_icmp_ge (tgt := 58) h dX2_answer_46 (by decide) rx3 (rIc rfl) (fun hc24 => ?_) (fun hc24 => ?_)
          · have hf := ite_t hc24 hf
            refine r_iload_n h dX2_answer_58 rfl 3 rfl ?_
            exact r_ret1 hr dX2_answer_59 ry2 hf
          · have hf := ite_f hc24 hf
            refine r_iconst h dX2_answer_49 ?_
            refine r_iload h dX2_answer_50 0 rfl ?_
            refine r_isub h dX2_answer_52 ?_
            refine r_aload_n h dX2_answer_53 rfl 2 rfl ?_
            refine r_alen h dX2_answer_54 pu1 pc1 (Or.inr (Or.inl rfl)) rfl ?_
            refine r_icmp_lt (tgt := 60) h dX2_answer_55 (by decide) (rI_iw _) (rI_rN _) (fun hc25 => ?_) (fun hc25 => ?_)
            · have hf := ite_t hc25 hf
              refine r_aload_n h dX2_answer_60 rfl 1 rfl ?_
              have hq26c := rf_2_1 _ hC
              have hq26 := w_ref hw ht hC (by decide) (k := 1) (by decide) hq26c.1
              refine g_X2_15 h dX2_answer_61 ht hC hq26.1 ?_
              refine r_iload_n h dX2_answer_64 rfl 4 rfl ?_
              refine r_iload h dX2_answer_65 0 rfl ?_
              refine r_if_lt (tgt := 75) h dX2_answer_67 (by decide) rx6_ (fun hc27 => ?_) (fun hc27 => ?_)
              · have hf := ite_t hc27 hf
                refine r_aload_n h dX2_answer_75 rfl 2 rfl ?_
                refine r_iconst h dX2_answer_76 ?_
                refine r_iload h dX2_answer_77 0 rfl ?_
                refine r_isub h dX2_answer_79 ?_
                obtain ⟨hi28, hf⟩ := oc_some hf
                refine r_iald h dX2_answer_80 pu1 pc1 (rI_iw _) rfl (j := (iw ((-1) - x6_)).toNat) rfl hi28 ?_
                refine r_sub h [1, 2, 3, 4, 5] rfl ?_
                exact b_Fo_answer_81 h hr hw ht hC pu1 pc1 y2 x3 x4 x3 (gi s0 u1 ((iw ((-1) - x6_)).toNat)) (l_Fo_answer_5 t u1 y2 fu) ih s0 ry2 rx3 rx4 rx3 (hs0.1 _ _) hf
              · have hf := ite_f hc27 hf
                refine r_iload h dX2_answer_70 0 rfl ?_
                refine r_goto (tgt := 81) h dX2_answer_72 (by decide) ?_
                refine r_sub h [1, 2, 3, 4, 5] rfl ?_
                exact b_Fo_answer_81 h hr hw ht hC pu1 pc1 y2 x3 x4 x3 x6_ (l_Fo_answer_5 t u1 y2 fu) ih s0 ry2 rx3 rx4 rx3 rx6_ hf
            · have hf := ite_f hc25 hf
              refine r_iload_n h dX2_answer_58 rfl 3 rfl ?_
              exact r_ret1 hr dX2_answer_59 ry2 hf
set_option maxRecDepth 20000 in
theorem m_Fo_answer {l : Launch} {D : va_G} {cs : Nat → ClassId} {aS aV : Nat} {A : Nat → Prop} {ad : Nat → Nat} {n : Nat} {nl : Nat → Nat → Bool} {out : Int × SS} (hw : w_WH n nl) {t : Nat} (ht : t < n) (hC : rC t = 2) {u1 : Nat} (pu1 : u1 < n) (pc1 : rC u1 = 14) {a2 : Int} (ra2 : rI a2) {s0 : SS} (hs0 : rS s0) (hf : f_Fo_answer t u1 a2 s0 = some out) : w_MC l D cs aS aV A yX2_answer cX2_answer 6 1 rm_Fo_answer ad n nl [.ref (ad t), .ref (ad u1), .int (vI a2)] s0 (w_Po ad n nl out) := by
  refine w_MC_of (by decide +kernel) (by decide) hs0 (Nat.le_of_ble_eq_true rfl) (fun K h hr => ?_)
  refine r_lv (lv' := [(0, .ref (ad t)), (1, .ref (ad u1)), (2, .int (vI a2))]) rfl ?_
  unfold f_Fo_answer at hf
  refine r_rS h (fun hs0 => ?_)
  refine r_iconst h dX2_answer_0 ?_
  refine r_istore_n h [(3, .int (vI 0)), (0, .ref (ad t)), (1, .ref (ad u1)), (2, .int (vI a2))] dX2_answer_1 rfl (by decide) rfl ?_
  refine r_iconst h dX2_answer_2 ?_
  refine r_istore h [(4, .int (vI 0)), (3, .int (vI 0)), (0, .ref (ad t)), (1, .ref (ad u1)), (2, .int (vI a2))] dX2_answer_3 (by decide) rfl ?_
  refine r_sub h [2, 3, 4, 1, 0] rfl ?_
  exact b_Fo_answer_5 h hr hw ht hC pu1 pc1 ra2 FU 0 0 s0 (rIc rfl) (rIc rfl) hf
set_option maxRecDepth 20000 in
theorem m_Qu_within {l : Launch} {D : va_G} {cs : Nat → ClassId} {aS aV : Nat} {A : Nat → Prop} {ad : Nat → Nat} {n : Nat} {nl : Nat → Nat → Bool} {out : Int × SS} (hw : w_WH n nl) {a1 : Int} (ra1 : rI a1) {a2 : Int} (ra2 : rI a2) {a3 : Int} (ra3 : rI a3) {s0 : SS} (hs0 : rS s0) (hf : f_Qu_within a1 a2 a3 s0 = some out) : w_MC l D cs aS aV A yX11_within cX11_within 3 1 rm_Qu_within ad n nl [.int (vI a1), .int (vI a2), .int (vI a3)] s0 (w_Po ad n nl out) := by
  refine w_MC_of (by decide +kernel) (by decide) hs0 (Nat.le_of_ble_eq_true rfl) (fun K h hr => ?_)
  refine r_lv (lv' := [(0, .int (vI a1)), (1, .int (vI a2)), (2, .int (vI a3))]) rfl ?_
  unfold f_Qu_within at hf
  refine r_rS h (fun hs0 => ?_)
  refine r_iload_n h dX11_within_0 rfl 1 rfl ?_
  refine r_iload_n h dX11_within_1 rfl 0 rfl ?_
  refine r_icmp_ge (tgt := 7) h dX11_within_2 (by decide) ra2 ra1 (fun hc1 => ?_) (fun hc1 => ?_)
  · have hf := ite_t hc1 hf
    refine r_iload_n h dX11_within_7 rfl 1 rfl ?_
    refine r_iload_n h dX11_within_8 rfl 2 rfl ?_
    refine r_icmp_le (tgt := 16) h dX11_within_9 (by decide) ra2 ra3 (fun hc2 => ?_) (fun hc2 => ?_)
    · have hf := ite_t hc2 hf
      refine r_iload_n h dX11_within_16 rfl 1 rfl ?_
      exact r_ret1 hr dX11_within_17 ra2 hf
    · have hf := ite_f hc2 hf
      refine r_iload_n h dX11_within_12 rfl 2 rfl ?_
      refine r_goto (tgt := 17) h dX11_within_13 (by decide) ?_
      exact r_ret1 hr dX11_within_17 ra3 hf
  · have hf := ite_f hc1 hf
    refine r_iload_n h dX11_within_5 rfl 0 rfl ?_
    exact r_ret1 hr dX11_within_6 ra1 hf
set_option maxRecDepth 20000 in
theorem m_La_clear {l : Launch} {D : va_G} {cs : Nat → ClassId} {aS aV : Nat} {A : Nat → Prop} {ad : Nat → Nat} {n : Nat} {nl : Nat → Nat → Bool} {out : Int × SS} (hw : w_WH n nl) {t : Nat} (ht : t < n) (hC : rC t = 4) {s0 : SS} (hs0 : rS s0) (hf : f_La_clear t s0 = some out) : w_MC l D cs aS aV A yX4_clear cX4_clear 1 0 rm_La_clear ad n nl [.ref (ad t)] s0 (w_Po ad n nl out) := by
  refine w_MC_of (by decide +kernel) (by decide) hs0 (Nat.le_of_ble_eq_true rfl) (fun K h hr => ?_)
  refine r_lv (lv' := [(0, .ref (ad t))]) rfl ?_
  unfold f_La_clear at hf
  refine r_rS h (fun hs0 => ?_)
  refine r_aload_n h dX4_clear_0 rfl 0 rfl ?_
  refine r_iconst h dX4_clear_1 ?_
  refine p_X4_62 h dX4_clear_2 ht hC (rIc rfl) ?_
  refine r_os hf (fun s1 hf => ?_)
  refine r_rS h (fun hs1 => ?_)
  refine r_aload_n h dX4_clear_5 rfl 0 rfl ?_
  refine r_iconst h dX4_clear_6 ?_
  refine p_X4_66 h dX4_clear_7 ht hC (rIc rfl) ?_
  refine r_os hf (fun s2 hf => ?_)
  refine r_rS h (fun hs2 => ?_)
  refine r_aload_n h dX4_clear_10 rfl 0 rfl ?_
  refine r_iconst h dX4_clear_11 ?_
  refine p_X4_69 h dX4_clear_12 ht hC (rIc rfl) ?_
  refine r_os hf (fun s3 hf => ?_)
  refine r_rS h (fun hs3 => ?_)
  refine r_aload_n h dX4_clear_15 rfl 0 rfl ?_
  refine r_iconst h dX4_clear_16 ?_
  refine p_X4_72 h dX4_clear_17 ht hC (rIc rfl) ?_
  refine r_os hf (fun s4 hf => ?_)
  refine r_rS h (fun hs4 => ?_)
  refine r_aload_n h dX4_clear_20 rfl 0 rfl ?_
  refine r_iconst h dX4_clear_21 ?_
  refine p_X4_75 h dX4_clear_22 ht hC (rIc rfl) ?_
  refine r_os hf (fun s5 hf => ?_)
  refine r_rS h (fun hs5 => ?_)
  refine r_aload_n h dX4_clear_25 rfl 0 rfl ?_
  have hq6c := rf_4_18 _ hC
  have hq6 := w_ref hw ht hC (by decide) (k := 18) (by decide) hq6c.1
  refine g_X4_55 h dX4_clear_26 ht hC hq6.1 ?_
  obtain ⟨r7, s7, hq7, hf⟩ := ob_some hf
  refine r_callV0 h [] dX4_clear_29 (fun hs => m_Fo_clear hw hq6.2 hq6c.2.1 hs hq7) ml_X4_78 cv_Fo_clear rfl (co := 2) rfl (by decide) hq6.2 hq6c.2.1 ⟨rfl, rfl⟩ ⟨Nat.le_of_ble_eq_true rfl, Nat.le_of_ble_eq_true rfl⟩ ⟨Nat.le_of_ble_eq_true rfl, Nat.le_of_ble_eq_true rfl⟩ (Nat.le_of_ble_eq_true rfl) rfl (fun hr7 hs7 => ?_)
  refine r_aload_n h dX4_clear_32 rfl 0 rfl ?_
  have hq8c := rf_4_19 _ hC
  have hq8 := w_ref hw ht hC (by decide) (k := 19) (by decide) hq8c.1
  refine g_X4_59 h dX4_clear_33 ht hC hq8.1 ?_
  obtain ⟨r9, s9, hq9, hf⟩ := ob_some hf
  refine r_callV0 h [] dX4_clear_36 (fun hs => m_Fo_clear hw hq8.2 hq8c.2.1 hs hq9) ml_X4_78 cv_Fo_clear rfl (co := 2) rfl (by decide) hq8.2 hq8c.2.1 ⟨rfl, rfl⟩ ⟨Nat.le_of_ble_eq_true rfl, Nat.le_of_ble_eq_true rfl⟩ ⟨Nat.le_of_ble_eq_true rfl, Nat.le_of_ble_eq_true rfl⟩ (Nat.le_of_ble_eq_true rfl) rfl (fun hr9 hs9 => ?_)
  exact r_ret0 (x := 0) hr dX4_clear_39 hf
set_option maxRecDepth 20000 in
theorem m_La_isPlace {l : Launch} {D : va_G} {cs : Nat → ClassId} {aS aV : Nat} {A : Nat → Prop} {ad : Nat → Nat} {n : Nat} {nl : Nat → Nat → Bool} {out : Int × SS} (hw : w_WH n nl) {t : Nat} (ht : t < n) (hC : rC t = 4) {a1 : Int} (ra1 : rI a1) {s0 : SS} (hs0 : rS s0) (hf : f_La_isPlace t a1 s0 = some out) : w_MC l D cs aS aV A yX4_isPlace cX4_isPlace 2 2 rm_La_isPlace ad n nl [.ref (ad t), .int (vI a1)] s0 (w_Po ad n nl out) := by
  refine w_MC_of (by decide +kernel) (by decide) hs0 (Nat.le_of_ble_eq_true rfl) (fun K h hr => ?_)
  refine r_lv (lv' := [(0, .ref (ad t)), (1, .int (vI a1))]) rfl ?_
  unfold f_La_isPlace at hf
  refine r_rS h (fun hs0 => ?_)
  refine r_iload_n h dX4_isPlace_0 rfl 1 rfl ?_
  refine r_if_lt (tgt := 22) h dX4_isPlace_1 (by decide) ra1 (fun hc1 => ?_) (fun hc1 => ?_)
  · have hf := ite_t hc1 hf
    refine r_iconst h dX4_isPlace_22 ?_
    exact r_ret2 hr dX4_isPlace_23 (Or.inl rfl) hf
  · have hf := ite_f hc1 hf
    refine r_iload_n h dX4_isPlace_4 rfl 1 rfl ?_
    refine r_aload_n h dX4_isPlace_5 rfl 0 rfl ?_
    refine g_X4_62 h dX4_isPlace_6 ht hC ?_
    refine r_icmp_ge (tgt := 22) h dX4_isPlace_9 (by decide) ra1 (hs0.1 _ _) (fun hc2 => ?_) (fun hc2 => ?_)
    · have hf := ite_t hc2 hf
      refine r_iconst h dX4_isPlace_22 ?_
      exact r_ret2 hr dX4_isPlace_23 (Or.inl rfl) hf
    · have hf := ite_f hc2 hf
      refine r_iload_n h dX4_isPlace_12 rfl 1 rfl ?_
      refine r_bipush h dX4_isPlace_13 (by decide) ?_
      refine r_icmp_ge (tgt := 22) h dX4_isPlace_15 (by decide) ra1 (rIc rfl) (fun hc3 => ?_) (fun hc3 => ?_)
      · have hf := ite_t hc3 hf
        refine r_iconst h dX4_isPlace_22 ?_
        exact r_ret2 hr dX4_isPlace_23 (Or.inl rfl) hf
      · have hf := ite_f hc3 hf
        refine r_iconst h dX4_isPlace_18 ?_
        refine r_goto (tgt := 23) h dX4_isPlace_19 (by decide) ?_
        exact r_ret2 hr dX4_isPlace_23 (Or.inr rfl) hf
set_option maxRecDepth 20000 in
theorem m_La_isWay {l : Launch} {D : va_G} {cs : Nat → ClassId} {aS aV : Nat} {A : Nat → Prop} {ad : Nat → Nat} {n : Nat} {nl : Nat → Nat → Bool} {out : Int × SS} (hw : w_WH n nl) {t : Nat} (ht : t < n) (hC : rC t = 4) {a1 : Int} (ra1 : rI a1) {s0 : SS} (hs0 : rS s0) (hf : f_La_isWay t a1 s0 = some out) : w_MC l D cs aS aV A yX4_isWay cX4_isWay 2 2 rm_La_isWay ad n nl [.ref (ad t), .int (vI a1)] s0 (w_Po ad n nl out) := by
  refine w_MC_of (by decide +kernel) (by decide) hs0 (Nat.le_of_ble_eq_true rfl) (fun K h hr => ?_)
  refine r_lv (lv' := [(0, .ref (ad t)), (1, .int (vI a1))]) rfl ?_
  unfold f_La_isWay at hf
  refine r_rS h (fun hs0 => ?_)
  refine r_iload_n h dX4_isWay_0 rfl 1 rfl ?_
  refine r_if_lt (tgt := 22) h dX4_isWay_1 (by decide) ra1 (fun hc1 => ?_) (fun hc1 => ?_)
  · have hf := ite_t hc1 hf
    refine r_iconst h dX4_isWay_22 ?_
    exact r_ret2 hr dX4_isWay_23 (Or.inl rfl) hf
  · have hf := ite_f hc1 hf
    refine r_iload_n h dX4_isWay_4 rfl 1 rfl ?_
    refine r_aload_n h dX4_isWay_5 rfl 0 rfl ?_
    refine g_X4_66 h dX4_isWay_6 ht hC ?_
    refine r_icmp_ge (tgt := 22) h dX4_isWay_9 (by decide) ra1 (hs0.1 _ _) (fun hc2 => ?_) (fun hc2 => ?_)
    · have hf := ite_t hc2 hf
      refine r_iconst h dX4_isWay_22 ?_
      exact r_ret2 hr dX4_isWay_23 (Or.inl rfl) hf
    · have hf := ite_f hc2 hf
      refine r_iload_n h dX4_isWay_12 rfl 1 rfl ?_
      refine r_bipush h dX4_isWay_13 (by decide) ?_
      refine r_icmp_ge (tgt := 22) h dX4_isWay_15 (by decide) ra1 (rIc rfl) (fun hc3 => ?_) (fun hc3 => ?_)
      · have hf := ite_t hc3 hf
        refine r_iconst h dX4_isWay_22 ?_
        exact r_ret2 hr dX4_isWay_23 (Or.inl rfl) hf
      · have hf := ite_f hc3 hf
        refine r_iconst h dX4_isWay_18 ?_
        refine r_goto (tgt := 23) h dX4_isWay_19 (by decide) ?_
        exact r_ret2 hr dX4_isWay_23 (Or.inr rfl) hf
set_option maxRecDepth 20000 in
theorem m_La_isSoul {l : Launch} {D : va_G} {cs : Nat → ClassId} {aS aV : Nat} {A : Nat → Prop} {ad : Nat → Nat} {n : Nat} {nl : Nat → Nat → Bool} {out : Int × SS} (hw : w_WH n nl) {t : Nat} (ht : t < n) (hC : rC t = 4) {a1 : Int} (ra1 : rI a1) {s0 : SS} (hs0 : rS s0) (hf : f_La_isSoul t a1 s0 = some out) : w_MC l D cs aS aV A yX4_isSoul cX4_isSoul 2 2 rm_La_isSoul ad n nl [.ref (ad t), .int (vI a1)] s0 (w_Po ad n nl out) := by
  refine w_MC_of (by decide +kernel) (by decide) hs0 (Nat.le_of_ble_eq_true rfl) (fun K h hr => ?_)
  refine r_lv (lv' := [(0, .ref (ad t)), (1, .int (vI a1))]) rfl ?_
  unfold f_La_isSoul at hf
  refine r_rS h (fun hs0 => ?_)
  refine r_iload_n h dX4_isSoul_0 rfl 1 rfl ?_
  refine r_if_lt (tgt := 22) h dX4_isSoul_1 (by decide) ra1 (fun hc1 => ?_) (fun hc1 => ?_)
  · have hf := ite_t hc1 hf
    refine r_iconst h dX4_isSoul_22 ?_
    exact r_ret2 hr dX4_isSoul_23 (Or.inl rfl) hf
  · have hf := ite_f hc1 hf
    refine r_iload_n h dX4_isSoul_4 rfl 1 rfl ?_
    refine r_aload_n h dX4_isSoul_5 rfl 0 rfl ?_
    refine g_X4_69 h dX4_isSoul_6 ht hC ?_
    refine r_icmp_ge (tgt := 22) h dX4_isSoul_9 (by decide) ra1 (hs0.1 _ _) (fun hc2 => ?_) (fun hc2 => ?_)
    · have hf := ite_t hc2 hf
      refine r_iconst h dX4_isSoul_22 ?_
      exact r_ret2 hr dX4_isSoul_23 (Or.inl rfl) hf
    · have hf := ite_f hc2 hf
      refine r_iload_n h dX4_isSoul_12 rfl 1 rfl ?_
      refine r_bipush h dX4_isSoul_13 (by decide) ?_
      refine r_icmp_ge (tgt := 22) h dX4_isSoul_15 (by decide) ra1 (rIc rfl) (fun hc3 => ?_) (fun hc3 => ?_)
      · have hf := ite_t hc3 hf
        refine r_iconst h dX4_isSoul_22 ?_
        exact r_ret2 hr dX4_isSoul_23 (Or.inl rfl) hf
      · have hf := ite_f hc3 hf
        refine r_iconst h dX4_isSoul_18 ?_
        refine r_goto (tgt := 23) h dX4_isSoul_19 (by decide) ?_
        exact r_ret2 hr dX4_isSoul_23 (Or.inr rfl) hf
set_option maxRecDepth 20000 in
theorem m_La_isMatter {l : Launch} {D : va_G} {cs : Nat → ClassId} {aS aV : Nat} {A : Nat → Prop} {ad : Nat → Nat} {n : Nat} {nl : Nat → Nat → Bool} {out : Int × SS} (hw : w_WH n nl) {t : Nat} (ht : t < n) (hC : rC t = 4) {a1 : Int} (ra1 : rI a1) {s0 : SS} (hs0 : rS s0) (hf : f_La_isMatter t a1 s0 = some out) : w_MC l D cs aS aV A yX4_isMatter cX4_isMatter 2 2 rm_La_isMatter ad n nl [.ref (ad t), .int (vI a1)] s0 (w_Po ad n nl out) := by
  refine w_MC_of (by decide +kernel) (by decide) hs0 (Nat.le_of_ble_eq_true rfl) (fun K h hr => ?_)
  refine r_lv (lv' := [(0, .ref (ad t)), (1, .int (vI a1))]) rfl ?_
  unfold f_La_isMatter at hf
  refine r_rS h (fun hs0 => ?_)
  refine r_iload_n h dX4_isMatter_0 rfl 1 rfl ?_
  refine r_if_lt (tgt := 22) h dX4_isMatter_1 (by decide) ra1 (fun hc1 => ?_) (fun hc1 => ?_)
  · have hf := ite_t hc1 hf
    refine r_iconst h dX4_isMatter_22 ?_
    exact r_ret2 hr dX4_isMatter_23 (Or.inl rfl) hf
  · have hf := ite_f hc1 hf
    refine r_iload_n h dX4_isMatter_4 rfl 1 rfl ?_
    refine r_aload_n h dX4_isMatter_5 rfl 0 rfl ?_
    refine g_X4_72 h dX4_isMatter_6 ht hC ?_
    refine r_icmp_ge (tgt := 22) h dX4_isMatter_9 (by decide) ra1 (hs0.1 _ _) (fun hc2 => ?_) (fun hc2 => ?_)
    · have hf := ite_t hc2 hf
      refine r_iconst h dX4_isMatter_22 ?_
      exact r_ret2 hr dX4_isMatter_23 (Or.inl rfl) hf
    · have hf := ite_f hc2 hf
      refine r_iload_n h dX4_isMatter_12 rfl 1 rfl ?_
      refine r_bipush h dX4_isMatter_13 (by decide) ?_
      refine r_icmp_ge (tgt := 22) h dX4_isMatter_15 (by decide) ra1 (rIc rfl) (fun hc3 => ?_) (fun hc3 => ?_)
      · have hf := ite_t hc3 hf
        refine r_iconst h dX4_isMatter_22 ?_
        exact r_ret2 hr dX4_isMatter_23 (Or.inl rfl) hf
      · have hf := ite_f hc3 hf
        refine r_iconst h dX4_isMatter_18 ?_
        refine r_goto (tgt := 23) h dX4_isMatter_19 (by decide) ?_
        exact r_ret2 hr dX4_isMatter_23 (Or.inr rfl) hf
set_option maxRecDepth 20000 in
theorem m_La_couple {l : Launch} {D : va_G} {cs : Nat → ClassId} {aS aV : Nat} {A : Nat → Prop} {ad : Nat → Nat} {n : Nat} {nl : Nat → Nat → Bool} {out : Int × SS} (hw : w_WH n nl) {t : Nat} (ht : t < n) (hC : rC t = 4) {a1 : Int} (ra1 : rI a1) {a2 : Int} (ra2 : rI a2) {a3 : Int} (ra3 : rI a3) {s0 : SS} (hs0 : rS s0) (hf : f_La_couple t a1 a2 a3 s0 = some out) : w_MC l D cs aS aV A yX4_couple cX4_couple 4 1 rm_La_couple ad n nl [.ref (ad t), .int (vI a1), .int (vI a2), .int (vI a3)] s0 (w_Po ad n nl out) := by
  refine w_MC_of (by decide +kernel) (by decide) hs0 (Nat.le_of_ble_eq_true rfl) (fun K h hr => ?_)
  refine r_lv (lv' := [(0, .ref (ad t)), (1, .int (vI a1)), (2, .int (vI a2)), (3, .int (vI a3))]) rfl ?_
  unfold f_La_couple at hf
  refine r_rS h (fun hs0 => ?_)
  refine r_aload_n h dX4_couple_0 rfl 0 rfl ?_
  refine r_iload_n h dX4_couple_1 rfl 1 rfl ?_
  obtain ⟨r1, s1, hq1, hf⟩ := ob_some hf
  refine r_callV2 h [.int (vI a1)] dX4_couple_2 (fun hs => m_La_isSoul hw ht hC ra1 hs hq1) ml_X4_81 cv_La_isSoul rfl (co := 4) rfl (by decide) ht hC ⟨rfl, rfl⟩ ⟨Nat.le_of_ble_eq_true rfl, Nat.le_of_ble_eq_true rfl⟩ ⟨Nat.le_of_ble_eq_true rfl, Nat.le_of_ble_eq_true rfl⟩ (Nat.le_of_ble_eq_true rfl) rfl (fun hr1 hs1 => ?_)
  refine r_if_eq (tgt := 29) h dX4_couple_5 (by decide) (rI_b hr1) (fun hc2 => ?_) (fun hc2 => ?_)
  · have hf := ite_t hc2 hf
    refine r_iconst h dX4_couple_29 ?_
    exact r_ret1 hr dX4_couple_30 (rIc rfl) hf
  · have hf := ite_f hc2 hf
    refine r_aload_n h dX4_couple_8 rfl 0 rfl ?_
    refine r_iload_n h dX4_couple_9 rfl 2 rfl ?_
    obtain ⟨r3, s3, hq3, hf⟩ := ob_some hf
    refine r_callV2 h [.int (vI a2)] dX4_couple_10 (fun hs => m_La_isSoul hw ht hC ra2 hs hq3) ml_X4_81 cv_La_isSoul rfl (co := 4) rfl (by decide) ht hC ⟨rfl, rfl⟩ ⟨Nat.le_of_ble_eq_true rfl, Nat.le_of_ble_eq_true rfl⟩ ⟨Nat.le_of_ble_eq_true rfl, Nat.le_of_ble_eq_true rfl⟩ (Nat.le_of_ble_eq_true rfl) rfl (fun hr3 hs3 => ?_)
    refine r_if_eq (tgt := 29) h dX4_couple_13 (by decide) (rI_b hr3) (fun hc4 => ?_) (fun hc4 => ?_)
    · have hf := ite_t hc4 hf
      refine r_iconst h dX4_couple_29 ?_
      exact r_ret1 hr dX4_couple_30 (rIc rfl) hf
    · have hf := ite_f hc4 hf
      refine r_iload_n h dX4_couple_16 rfl 1 rfl ?_
      refine r_iload_n h dX4_couple_17 rfl 2 rfl ?_
      refine r_icmp_eq (tgt := 29) h dX4_couple_18 (by decide) ra1 ra2 (fun hc5 => ?_) (fun hc5 => ?_)
      · have hf := ite_t hc5 hf
        refine r_iconst h dX4_couple_29 ?_
        exact r_ret1 hr dX4_couple_30 (rIc rfl) hf
      · have hf := ite_f hc5 hf
        refine r_aload_n h dX4_couple_21 rfl 0 rfl ?_
        refine r_iload_n h dX4_couple_22 rfl 3 rfl ?_
        obtain ⟨r6, s6, hq6, hf⟩ := ob_some hf
        refine r_callV2 h [.int (vI a3)] dX4_couple_23 (fun hs => m_La_isMatter hw ht hC ra3 hs hq6) ml_X4_85 cv_La_isMatter rfl (co := 4) rfl (by decide) ht hC ⟨rfl, rfl⟩ ⟨Nat.le_of_ble_eq_true rfl, Nat.le_of_ble_eq_true rfl⟩ ⟨Nat.le_of_ble_eq_true rfl, Nat.le_of_ble_eq_true rfl⟩ (Nat.le_of_ble_eq_true rfl) rfl (fun hr6 hs6 => ?_)
        refine r_if_ne (tgt := 31) h dX4_couple_26 (by decide) (rI_b hr6) (fun hc7 => ?_) (fun hc7 => ?_)
        · have hf := ite_f hc7 hf
          refine r_bipush h dX4_couple_31 (by decide) ?_
          refine r_iload_n h dX4_couple_33 rfl 1 rfl ?_
          refine r_imul h dX4_couple_34 ?_
          refine r_bipush h dX4_couple_35 (by decide) ?_
          refine r_iload_n h dX4_couple_37 rfl 2 rfl ?_
          refine r_imul h dX4_couple_38 ?_
          refine r_iadd h dX4_couple_39 ?_
          refine r_iload_n h dX4_couple_40 rfl 3 rfl ?_
          refine r_iadd h dX4_couple_41 ?_
          exact r_ret1 hr dX4_couple_42 (rI_iw _) hf
        · have hf := ite_nf hc7 hf
          refine r_iconst h dX4_couple_29 ?_
          exact r_ret1 hr dX4_couple_30 (rIc rfl) hf
set_option maxRecDepth 20000 in
theorem m_La_isCouple {l : Launch} {D : va_G} {cs : Nat → ClassId} {aS aV : Nat} {A : Nat → Prop} {ad : Nat → Nat} {n : Nat} {nl : Nat → Nat → Bool} {out : Int × SS} (hw : w_WH n nl) {t : Nat} (ht : t < n) (hC : rC t = 4) {a1 : Int} (ra1 : rI a1) {s0 : SS} (hs0 : rS s0) (hf : f_La_isCouple t a1 s0 = some out) : w_MC l D cs aS aV A yX4_isCouple cX4_isCouple 2 2 rm_La_isCouple ad n nl [.ref (ad t), .int (vI a1)] s0 (w_Po ad n nl out) := by
  refine w_MC_of (by decide +kernel) (by decide) hs0 (Nat.le_of_ble_eq_true rfl) (fun K h hr => ?_)
  refine r_lv (lv' := [(0, .ref (ad t)), (1, .int (vI a1))]) rfl ?_
  unfold f_La_isCouple at hf
  refine r_rS h (fun hs0 => ?_)
  refine r_iload_n h dX4_isCouple_0 rfl 1 rfl ?_
  refine r_if_lt (tgt := 31) h dX4_isCouple_1 (by decide) ra1 (fun hc1 => ?_) (fun hc1 => ?_)
  · have hf := ite_t hc1 hf
    refine r_iconst h dX4_isCouple_31 ?_
    exact r_ret2 hr dX4_isCouple_32 (Or.inl rfl) hf
  · have hf := ite_f hc1 hf
    refine r_aload_n h dX4_isCouple_4 rfl 0 rfl ?_
    refine r_iload_n h dX4_isCouple_5 rfl 1 rfl ?_
    refine r_bipush h dX4_isCouple_6 (by decide) ?_
    refine r_idivP h dX4_isCouple_8 ra1 (rIc rfl) (by decide) ?_
    refine r_iload_n h dX4_isCouple_9 rfl 1 rfl ?_
    refine r_bipush h dX4_isCouple_10 (by decide) ?_
    refine r_idivP h dX4_isCouple_12 ra1 (rIc rfl) (by decide) ?_
    refine r_bipush h dX4_isCouple_13 (by decide) ?_
    refine r_irem h dX4_isCouple_15 (rI_tdivP ra1 (by decide)) (rIc rfl) (by decide) ?_
    refine r_iload_n h dX4_isCouple_16 rfl 1 rfl ?_
    refine r_bipush h dX4_isCouple_17 (by decide) ?_
    refine r_irem h dX4_isCouple_19 ra1 (rIc rfl) (by decide) ?_
    obtain ⟨r2, s2, hq2, hf⟩ := ob_some hf
    refine r_callV1 h [.int (vI (Int.tdiv a1 100)), .int (vI (Int.tmod (Int.tdiv a1 10) 10)), .int (vI (Int.tmod a1 10))] dX4_isCouple_20 (fun hs => m_La_couple hw ht hC (rI_tdivP ra1 (by decide)) (rI_tmod (rI_tdivP ra1 (by decide)) (rIc rfl)) (rI_tmod ra1 (rIc rfl)) hs hq2) ml_X4_88 cv_La_couple rfl (co := 4) rfl (by decide) ht hC ⟨rfl, rfl⟩ ⟨Nat.le_of_ble_eq_true rfl, Nat.le_of_ble_eq_true rfl⟩ ⟨Nat.le_of_ble_eq_true rfl, Nat.le_of_ble_eq_true rfl⟩ (Nat.le_of_ble_eq_true rfl) rfl (fun hr2 hs2 => ?_)
    refine r_iload_n h dX4_isCouple_23 rfl 1 rfl ?_
    refine r_icmp_ne (tgt := 31) h dX4_isCouple_24 (by decide) hr2 ra1 (fun hc3 => ?_) (fun hc3 => ?_)
    · have hf := ite_f hc3 hf
      refine r_iconst h dX4_isCouple_31 ?_
      exact r_ret2 hr dX4_isCouple_32 (Or.inl rfl) hf
    · have hf := ite_nf hc3 hf
      refine r_iconst h dX4_isCouple_27 ?_
      refine r_goto (tgt := 32) h dX4_isCouple_28 (by decide) ?_
      exact r_ret2 hr dX4_isCouple_32 (Or.inr rfl) hf
set_option maxRecDepth 20000 in
theorem m_La_otherEnd {l : Launch} {D : va_G} {cs : Nat → ClassId} {aS aV : Nat} {A : Nat → Prop} {ad : Nat → Nat} {n : Nat} {nl : Nat → Nat → Bool} {out : Int × SS} (hw : w_WH n nl) {t : Nat} (ht : t < n) (hC : rC t = 4) {a1 : Int} (ra1 : rI a1) {a2 : Int} (ra2 : rI a2) {s0 : SS} (hs0 : rS s0) (hf : f_La_otherEnd t a1 a2 s0 = some out) : w_MC l D cs aS aV A yX4_otherEnd cX4_otherEnd 3 1 rm_La_otherEnd ad n nl [.ref (ad t), .int (vI a1), .int (vI a2)] s0 (w_Po ad n nl out) := by
  refine w_MC_of (by decide +kernel) (by decide) hs0 (Nat.le_of_ble_eq_true rfl) (fun K h hr => ?_)
  refine r_lv (lv' := [(0, .ref (ad t)), (1, .int (vI a1)), (2, .int (vI a2))]) rfl ?_
  unfold f_La_otherEnd at hf
  refine r_rS h (fun hs0 => ?_)
  refine r_aload_n h dX4_otherEnd_0 rfl 0 rfl ?_
  refine r_iload_n h dX4_otherEnd_1 rfl 1 rfl ?_
  obtain ⟨r1, s1, hq1, hf⟩ := ob_some hf
  refine r_callV2 h [.int (vI a1)] dX4_otherEnd_2 (fun hs => m_La_isWay hw ht hC ra1 hs hq1) ml_X4_92 cv_La_isWay rfl (co := 4) rfl (by decide) ht hC ⟨rfl, rfl⟩ ⟨Nat.le_of_ble_eq_true rfl, Nat.le_of_ble_eq_true rfl⟩ ⟨Nat.le_of_ble_eq_true rfl, Nat.le_of_ble_eq_true rfl⟩ (Nat.le_of_ble_eq_true rfl) rfl (fun hr1 hs1 => ?_)
  refine r_if_ne (tgt := 10) h dX4_otherEnd_5 (by decide) (rI_b hr1) (fun hc2 => ?_) (fun hc2 => ?_)
  · have hf := ite_f hc2 hf
    refine r_aload_n h dX4_otherEnd_10 rfl 0 rfl ?_
    have hq3c := rf_4_5 _ hC
    have hq3 := w_ref hw ht hC (by decide) (k := 5) (by decide) hq3c.1
    refine g_X4_22 h dX4_otherEnd_11 ht hC hq3.1 ?_
    refine r_iload_n h dX4_otherEnd_14 rfl 1 rfl ?_
    obtain ⟨hi4, hf⟩ := oc_some hf
    refine r_iald h dX4_otherEnd_15 hq3.2 hq3c.2.1 ra1 (N := 14) (by rw [hq3c.2.2]; rfl) (j := (a1).toNat) rfl hi4 ?_
    refine r_iload_n h dX4_otherEnd_16 rfl 2 rfl ?_
    refine r_icmp_ne (tgt := 27) h dX4_otherEnd_17 (by decide) (hs1.1 _ _) ra2 (fun hc5 => ?_) (fun hc5 => ?_)
    · have hf := ite_f hc5 hf
      refine r_aload_n h dX4_otherEnd_27 rfl 0 rfl ?_
      have hq6c := rf_4_6 _ hC
      have hq6 := w_ref hw ht hC (by decide) (k := 6) (by decide) hq6c.1
      refine g_X4_25 h dX4_otherEnd_28 ht hC hq6.1 ?_
      refine r_iload_n h dX4_otherEnd_31 rfl 1 rfl ?_
      obtain ⟨hi7, hf⟩ := oc_some hf
      refine r_iald h dX4_otherEnd_32 hq6.2 hq6c.2.1 ra1 (N := 14) (by rw [hq6c.2.2]; rfl) (j := (a1).toNat) rfl hi7 ?_
      refine r_iload_n h dX4_otherEnd_33 rfl 2 rfl ?_
      refine r_icmp_ne (tgt := 46) h dX4_otherEnd_34 (by decide) (hs1.1 _ _) ra2 (fun hc8 => ?_) (fun hc8 => ?_)
      · have hf := ite_f hc8 hf
        refine r_iconst h dX4_otherEnd_46 ?_
        exact r_ret1 hr dX4_otherEnd_47 (rIc rfl) hf
      · have hf := ite_nf hc8 hf
        refine r_aload_n h dX4_otherEnd_37 rfl 0 rfl ?_
        have hq9c := rf_4_5 _ hC
        have hq9 := w_ref hw ht hC (by decide) (k := 5) (by decide) hq9c.1
        refine g_X4_22 h dX4_otherEnd_38 ht hC hq9.1 ?_
        refine r_iload_n h dX4_otherEnd_41 rfl 1 rfl ?_
        obtain ⟨hi10, hf⟩ := oc_some hf
        refine r_iald h dX4_otherEnd_42 hq9.2 hq9c.2.1 ra1 (N := 14) (by rw [hq9c.2.2]; rfl) (j := (a1).toNat) rfl hi10 ?_
        refine r_goto (tgt := 47) h dX4_otherEnd_43 (by decide) ?_
        exact r_ret1 hr dX4_otherEnd_47 (hs1.1 _ _) hf
    · have hf := ite_nf hc5 hf
      refine r_aload_n h dX4_otherEnd_20 rfl 0 rfl ?_
      have hq11c := rf_4_6 _ hC
      have hq11 := w_ref hw ht hC (by decide) (k := 6) (by decide) hq11c.1
      refine g_X4_25 h dX4_otherEnd_21 ht hC hq11.1 ?_
      refine r_iload_n h dX4_otherEnd_24 rfl 1 rfl ?_
      obtain ⟨hi12, hf⟩ := oc_some hf
      refine r_iald h dX4_otherEnd_25 hq11.2 hq11c.2.1 ra1 (N := 14) (by rw [hq11c.2.2]; rfl) (j := (a1).toNat) rfl hi12 ?_
      exact r_ret1 hr dX4_otherEnd_26 (hs1.1 _ _) hf
  · have hf := ite_nf hc2 hf
    refine r_iconst h dX4_otherEnd_8 ?_
    exact r_ret1 hr dX4_otherEnd_9 (rIc rfl) hf
set_option maxRecDepth 20000 in
theorem m_Ro_reset {l : Launch} {D : va_G} {cs : Nat → ClassId} {aS aV : Nat} {A : Nat → Prop} {ad : Nat → Nat} {n : Nat} {nl : Nat → Nat → Bool} {out : Int × SS} (hw : w_WH n nl) {t : Nat} (ht : t < n) (hC : rC t = 7) {a1 : Int} (ra1 : rI a1) {s0 : SS} (hs0 : rS s0) (hf : f_Ro_reset t a1 s0 = some out) : w_MC l D cs aS aV A yX7_reset cX7_reset 2 0 rm_Ro_reset ad n nl [.ref (ad t), .int (vI a1)] s0 (w_Po ad n nl out) := by
  refine w_MC_of (by decide +kernel) (by decide) hs0 (Nat.le_of_ble_eq_true rfl) (fun K h hr => ?_)
  refine r_lv (lv' := [(0, .ref (ad t)), (1, .int (vI a1))]) rfl ?_
  unfold f_Ro_reset at hf
  refine r_rS h (fun hs0 => ?_)
  refine r_aload_n h dX7_reset_0 rfl 0 rfl ?_
  refine r_iconst h dX7_reset_1 ?_
  refine p_X7_18 h dX7_reset_2 ht hC (rIc rfl) ?_
  refine r_os hf (fun s1 hf => ?_)
  refine r_rS h (fun hs1 => ?_)
  refine r_aload_n h dX7_reset_5 rfl 0 rfl ?_
  refine r_iload_n h dX7_reset_6 rfl 1 rfl ?_
  refine p_X7_22 h dX7_reset_7 ht hC ra1 ?_
  refine r_os hf (fun s2 hf => ?_)
  refine r_rS h (fun hs2 => ?_)
  exact r_ret0 (x := 0) hr dX7_reset_10 hf
set_option maxRecDepth 20000 in
theorem m_Ro_append {l : Launch} {D : va_G} {cs : Nat → ClassId} {aS aV : Nat} {A : Nat → Prop} {ad : Nat → Nat} {n : Nat} {nl : Nat → Nat → Bool} {out : Int × SS} (hw : w_WH n nl) {t : Nat} (ht : t < n) (hC : rC t = 7) {u1 : Nat} (pu1 : u1 < n) (pc1 : rC u1 = 4) {a2 : Int} (ra2 : rI a2) {s0 : SS} (hs0 : rS s0) (hf : f_Ro_append t u1 a2 s0 = some out) : w_MC l D cs aS aV A yX7_append cX7_append 4 2 rm_Ro_append ad n nl [.ref (ad t), .ref (ad u1), .int (vI a2)] s0 (w_Po ad n nl out) := by
  refine w_MC_of (by decide +kernel) (by decide) hs0 (Nat.le_of_ble_eq_true rfl) (fun K h hr => ?_)
  refine r_lv (lv' := [(0, .ref (ad t)), (1, .ref (ad u1)), (2, .int (vI a2))]) rfl ?_
  unfold f_Ro_append at hf
  refine r_rS h (fun hs0 => ?_)
  refine r_aload_n h dX7_append_0 rfl 1 rfl ?_
  refine r_iload_n h dX7_append_1 rfl 2 rfl ?_
  refine r_aload_n h dX7_append_2 rfl 0 rfl ?_
  refine g_X7_22 h dX7_append_3 ht hC ?_
  obtain ⟨r1, s1, hq1, hf⟩ := ob_some hf
  refine r_callV1 h [.int (vI a2), .int (vI (gi s0 t 3))] dX7_append_6 (fun hs => m_La_otherEnd hw pu1 pc1 ra2 (hs0.1 _ _) hs hq1) ml_X7_25 cv_La_otherEnd rfl (co := 4) rfl (by decide) pu1 pc1 ⟨rfl, rfl⟩ ⟨Nat.le_of_ble_eq_true rfl, Nat.le_of_ble_eq_true rfl⟩ ⟨Nat.le_of_ble_eq_true rfl, Nat.le_of_ble_eq_true rfl⟩ (Nat.le_of_ble_eq_true rfl) rfl (fun hr1 hs1 => ?_)
  refine r_istore_n h [(3, .int (vI r1)), (0, .ref (ad t)), (1, .ref (ad u1)), (2, .int (vI a2))] dX7_append_9 rfl (by decide) rfl ?_
  refine r_aload_n h dX7_append_10 rfl 1 rfl ?_
  refine g_X7_22 h dX7_append_11 ht hC ?_
  refine r_iconst h dX7_append_14 ?_
  refine r_icmp_eq (tgt := 39) h dX7_append_15 (by decide) (hs1.1 _ _) (rIc rfl) (fun hc2 => ?_) (fun hc2 => ?_)
  · have hf := ite_t hc2 hf
    refine r_iconst h dX7_append_39 ?_
    exact r_ret2 hr dX7_append_40 (Or.inl rfl) hf
  · have hf := ite_f hc2 hf
    refine r_iload_n h dX7_append_18 rfl 0 rfl ?_
    refine r_iconst h dX7_append_19 ?_
    refine r_icmp_eq (tgt := 39) h dX7_append_20 (by decide) hr1 (rIc rfl) (fun hc3 => ?_) (fun hc3 => ?_)
    · have hf := ite_t hc3 hf
      refine r_iconst h dX7_append_39 ?_
      exact r_ret2 hr dX7_append_40 (Or.inl rfl) hf
    · have hf := ite_f hc3 hf
      refine r_aload_n h dX7_append_23 rfl 1 rfl ?_
      refine g_X7_18 h dX7_append_24 ht hC ?_
      refine r_if_lt (tgt := 39) h dX7_append_27 (by decide) (hs1.1 _ _) (fun hc4 => ?_) (fun hc4 => ?_)
      · have hf := ite_t hc4 hf
        refine r_iconst h dX7_append_39 ?_
        exact r_ret2 hr dX7_append_40 (Or.inl rfl) hf
      · have hf := ite_f hc4 hf
        refine r_aload_n h dX7_append_30 rfl 1 rfl ?_
        refine g_X7_18 h dX7_append_31 ht hC ?_
        refine r_bipush h dX7_append_34 (by decide) ?_
        refine r_icmp_lt (tgt := 41) h dX7_append_36 (by decide) (hs1.1 _ _) (rIc rfl) (fun hc5 => ?_) (fun hc5 => ?_)
        · have hf := ite_t hc5 hf
          refine r_aload_n h dX7_append_41 rfl 1 rfl ?_
          have hq6c := rf_7_0 _ hC
          have hq6 := w_ref hw ht hC (by decide) (k := 0) (by decide) hq6c.1
          refine g_X7_9 h dX7_append_42 ht hC hq6.1 ?_
          refine r_aload_n h dX7_append_45 rfl 1 rfl ?_
          refine g_X7_18 h dX7_append_46 ht hC ?_
          refine r_iload_n h dX7_append_49 rfl 3 rfl ?_
          obtain ⟨hi7, hf⟩ := oc_some hf
          refine r_iast h dX7_append_50 hq6.2 hq6c.2.1 (hs1.1 _ _) (N := 12) (by rw [hq6c.2.2]; rfl) (j := (gi s1 t 2).toNat) rfl hi7 ra2 ?_
          refine r_os hf (fun s8 hf => ?_)
          refine r_rS h (fun hs8 => ?_)
          refine r_aload_n h dX7_append_51 rfl 1 rfl ?_
          have hq9c := rf_7_1 _ hC
          have hq9 := w_ref hw ht hC (by decide) (k := 1) (by decide) hq9c.1
          refine g_X7_15 h dX7_append_52 ht hC hq9.1 ?_
          refine r_aload_n h dX7_append_55 rfl 1 rfl ?_
          refine g_X7_18 h dX7_append_56 ht hC ?_
          refine r_iload_n h dX7_append_59 rfl 0 rfl ?_
          obtain ⟨hi10, hf⟩ := oc_some hf
          refine r_iast h dX7_append_60 hq9.2 hq9c.2.1 (hs8.1 _ _) (N := 12) (by rw [hq9c.2.2]; rfl) (j := (gi s8 t 2).toNat) rfl hi10 hr1 ?_
          refine r_os hf (fun s11 hf => ?_)
          refine r_rS h (fun hs11 => ?_)
          refine r_aload_n h dX7_append_61 rfl 1 rfl ?_
          refine r_dup h dX7_append_62 rfl ?_
          refine g_X7_18 h dX7_append_63 ht hC ?_
          refine r_iconst h dX7_append_66 ?_
          refine r_iadd h dX7_append_67 ?_
          refine p_X7_18 h dX7_append_68 ht hC (rI_iw _) ?_
          refine r_os hf (fun s12 hf => ?_)
          refine r_rS h (fun hs12 => ?_)
          refine r_aload_n h dX7_append_71 rfl 1 rfl ?_
          refine r_iload_n h dX7_append_72 rfl 0 rfl ?_
          refine p_X7_22 h dX7_append_73 ht hC hr1 ?_
          refine r_os hf (fun s13 hf => ?_)
          refine r_rS h (fun hs13 => ?_)
          refine r_iconst h dX7_append_76 ?_
          exact r_ret2 hr dX7_append_77 (Or.inr rfl) hf
        · have hf := ite_f hc5 hf
          refine r_iconst h dX7_append_39 ?_
          exact r_ret2 hr dX7_append_40 (Or.inl rfl) hf
set_option maxRecDepth 20000 in
theorem b_Ta_begin_61 {l : Launch} {D : va_G} {cs : Nat → ClassId} {aS aV : Nat} {A : Nat → Prop} {K : KT} {ad : Nat → Nat} {n : Nat} {nl : Nat → Nat → Bool} {out : Int × SS} (h : w_Cl l rm_Ta_begin D cs aS aV A cX9_begin 4 RX9 "begin" K) (hr : w_Rt 0 cX9_begin 0 0 (w_Po ad n nl out) K) (hw : w_WH n nl) {t : Nat} (ht : t < n) (hC : rC t = 9) {y2 : Int} (ry2 : rI y2) : ∀ (fu : Nat) (x3 : Int) (s0 : SS), rI x3 → l_Ta_begin_61 t y2 fu x3 s0 = some out → K ad n nl 0 0 61 [(0, .ref (ad t)), (2, .int (vI y2)), (3, .int (vI x3))] [] s0 := by
  intro fu
  induction fu with
  | zero =>
    intro x3 s0 rx3 hf
    rw [l_Ta_begin_61] at hf
    cases hf
  | succ fu ih =>
    intro x3 s0 rx3 hf
    rw [l_Ta_begin_61] at hf
    refine r_rS h (fun hs0 => ?_)
    refine r_iload_n h dX9_begin_61 rfl 2 rfl ?_
    refine r_aload_n h dX9_begin_62 rfl 0 rfl ?_
    refine g_X9_48 h dX9_begin_63 ht hC ?_
    refine r_icmp_ge (tgt := 95) h dX9_begin_66 (by decide) rx3 (hs0.1 _ _) (fun hc1 => ?_) (fun hc1 => ?_)
    · have hf := ite_t hc1 hf
      exact r_ret0 (x := 0) hr dX9_begin_95 hf
    · have hf := ite_f hc1 hf
      refine r_aload_n h dX9_begin_69 rfl 0 rfl ?_
      have hq2c := rf_9_2 _ hC
      have hq2 := w_ref hw ht hC (by decide) (k := 2) (by decide) hq2c.1
      refine g_X9_15 h dX9_begin_70 ht hC hq2.1 ?_
      refine r_iload_n h dX9_begin_73 rfl 2 rfl ?_
      refine r_aload_n h dX9_begin_74 rfl 0 rfl ?_
      have hq3c := rf_9_0 _ hC
      have hq3 := w_ref hw ht hC (by decide) (k := 0) (by decide) hq3c.1
      refine g_X9_18 h dX9_begin_75 ht hC hq3.1 ?_
      have hq4c := rf_4_16 _ hq3c.2.1
      have hq4 := w_ref hw hq3.2 hq3c.2.1 (by decide) (k := 16) (by decide) hq4c.1
      refine g_X9_51 h dX9_begin_78 hq3.2 hq3c.2.1 hq4.1 ?_
      refine r_st (st0 := [.ref (ad 15), .int (vI x3), .ref (ad (t + 2))]) rfl ?_
      refine r_iload_n h dX9_begin_81 rfl 1 rfl ?_
      refine r_bipush h dX9_begin_82 (by decide) ?_
      refine r_imul h dX9_begin_84 ?_
      refine r_iload_n h dX9_begin_85 rfl 2 rfl ?_
      refine r_iadd h dX9_begin_86 ?_
      obtain ⟨hi5, hf⟩ := oc_some hf
      refine r_iald h dX9_begin_87 hq4.2 rC_15 (rI_iw _) (N := 48) (by rw [rN_15]; rfl) (j := (iw ((iw (y2 * 8)) + x3)).toNat) rfl hi5 ?_
      obtain ⟨hi6, hf⟩ := oc_some hf
      refine r_iast h dX9_begin_88 hq2.2 hq2c.2.1 rx3 (N := 20) (by rw [hq2c.2.2]; rfl) (j := (x3).toNat) rfl hi6 (hs0.1 _ _) ?_
      refine r_os hf (fun s7 hf => ?_)
      refine r_rS h (fun hs7 => ?_)
      refine r_iinc h [(3, .int (vI (iw (x3 + 1)))), (0, .ref (ad t)), (2, .int (vI y2))] dX9_begin_89 2 rfl (by decide) rfl ?_
      refine r_goto (tgt := 61) h dX9_begin_92 (by decide) ?_
      refine r_sub h [1, 2, 0] rfl ?_
      exact ih (iw (x3 + 1)) s7 (rI_iw _) hf
set_option maxRecDepth 20000 in
theorem m_Ta_begin {l : Launch} {D : va_G} {cs : Nat → ClassId} {aS aV : Nat} {A : Nat → Prop} {ad : Nat → Nat} {n : Nat} {nl : Nat → Nat → Bool} {out : Int × SS} (hw : w_WH n nl) {t : Nat} (ht : t < n) (hC : rC t = 9) {a1 : Int} (ra1 : rI a1) {s0 : SS} (hs0 : rS s0) (hf : f_Ta_begin t a1 s0 = some out) : w_MC l D cs aS aV A yX9_begin cX9_begin 4 0 rm_Ta_begin ad n nl [.ref (ad t), .int (vI a1)] s0 (w_Po ad n nl out) := by
  refine w_MC_of (by decide +kernel) (by decide) hs0 (Nat.le_of_ble_eq_true rfl) (fun K h hr => ?_)
  refine r_lv (lv' := [(0, .ref (ad t)), (1, .int (vI a1))]) rfl ?_
  unfold f_Ta_begin at hf
  refine r_rS h (fun hs0 => ?_)
  refine r_iload_n h dX9_begin_0 rfl 1 rfl ?_
  refine r_bipush h dX9_begin_1 (by decide) ?_
  refine r_irem h dX9_begin_3 ra1 (rIc rfl) (by decide) ?_
  refine r_ol hf (rI_tmod ra1 (rIc rfl)) (fun x1_ rx1_ hf => ?_)
  refine r_istore_n h [(2, .int (vI x1_)), (0, .ref (ad t)), (1, .int (vI a1))] dX9_begin_4 rfl (by decide) rfl ?_
  refine r_aload_n h dX9_begin_5 rfl 1 rfl ?_
  have hq2c := rf_9_0 _ hC
  have hq2 := w_ref hw ht hC (by decide) (k := 0) (by decide) hq2c.1
  refine g_X9_18 h dX9_begin_6 ht hC hq2.1 ?_
  refine r_iload_n h dX9_begin_9 rfl 0 rfl ?_
  obtain ⟨r3, s3, hq3, hf⟩ := ob_some hf
  refine r_callV2 h [.int (vI x1_)] dX9_begin_10 (fun hs => m_La_isMatter hw hq2.2 hq2c.2.1 rx1_ hs hq3) ml_X9_22 cv_La_isMatter rfl (co := 4) rfl (by decide) hq2.2 hq2c.2.1 ⟨rfl, rfl⟩ ⟨Nat.le_of_ble_eq_true rfl, Nat.le_of_ble_eq_true rfl⟩ ⟨Nat.le_of_ble_eq_true rfl, Nat.le_of_ble_eq_true rfl⟩ (Nat.le_of_ble_eq_true rfl) rfl (fun hr3 hs3 => ?_)
  refine r_if_ne (tgt := 17) h dX9_begin_13 (by decide) (rI_b hr3) (fun hc4 => ?_) (fun hc4 => ?_)
  · have hf := ite_f hc4 hf
    refine r_aload_n h dX9_begin_17 rfl 1 rfl ?_
    refine r_iload_n h dX9_begin_18 rfl 2 rfl ?_
    refine p_X9_28 h dX9_begin_19 ht hC ra1 ?_
    refine r_os hf (fun s5 hf => ?_)
    refine r_rS h (fun hs5 => ?_)
    refine r_aload_n h dX9_begin_22 rfl 1 rfl ?_
    refine r_aload_n h dX9_begin_23 rfl 1 rfl ?_
    have hq6c := rf_9_0 _ hC
    have hq6 := w_ref hw ht hC (by decide) (k := 0) (by decide) hq6c.1
    refine g_X9_18 h dX9_begin_24 ht hC hq6.1 ?_
    have hq7c := rf_4_14 _ hq6c.2.1
    have hq7 := w_ref hw hq6.2 hq6c.2.1 (by decide) (k := 14) (by decide) hq7c.1
    refine g_X9_32 h dX9_begin_27 hq6.2 hq6c.2.1 hq7.1 ?_
    refine r_st (st0 := [.ref (ad 13), .ref (ad t)]) rfl ?_
    refine r_iload_n h dX9_begin_30 rfl 0 rfl ?_
    obtain ⟨hi8, hf⟩ := oc_some hf
    refine r_iald h dX9_begin_31 hq7.2 rC_13 rx1_ (N := 6) (by rw [rN_13]; rfl) (j := (x1_).toNat) rfl hi8 ?_
    refine p_X9_35 h dX9_begin_32 ht hC (hs5.1 _ _) ?_
    refine r_os hf (fun s9 hf => ?_)
    refine r_rS h (fun hs9 => ?_)
    refine r_aload_n h dX9_begin_35 rfl 1 rfl ?_
    refine r_iconst h dX9_begin_36 ?_
    refine p_X9_38 h dX9_begin_37 ht hC (rIc rfl) ?_
    refine r_os hf (fun s10 hf => ?_)
    refine r_rS h (fun hs10 => ?_)
    refine r_aload_n h dX9_begin_40 rfl 1 rfl ?_
    refine r_iconst h dX9_begin_41 ?_
    refine r_aload_n h dX9_begin_42 rfl 1 rfl ?_
    have hq11c := rf_9_0 _ hC
    have hq11 := w_ref hw ht hC (by decide) (k := 0) (by decide) hq11c.1
    refine g_X9_18 h dX9_begin_43 ht hC hq11.1 ?_
    have hq12c := rf_4_15 _ hq11c.2.1
    have hq12 := w_ref hw hq11.2 hq11c.2.1 (by decide) (k := 15) (by decide) hq12c.1
    refine g_X9_41 h dX9_begin_46 hq11.2 hq11c.2.1 hq12.1 ?_
    refine r_st (st0 := [.ref (ad 14), .int (vI 0), .ref (ad t)]) rfl ?_
    refine r_iload_n h dX9_begin_49 rfl 0 rfl ?_
    obtain ⟨hi13, hf⟩ := oc_some hf
    refine r_iald h dX9_begin_50 hq12.2 rC_14 rx1_ (N := 6) (by rw [rN_14]; rfl) (j := (x1_).toNat) rfl hi13 ?_
    refine r_bipush h dX9_begin_51 (by decide) ?_
    obtain ⟨r14, s14, hq14, hf⟩ := ob_some hf
    refine r_callSN1 h [.int (vI 0), .int (vI (gi s10 14 ((x1_).toNat))), .int (vI 8)] dX9_begin_53 (fun hs => m_Qu_within hw (rIc rfl) (hs10.1 _ _) (rIc rfl) hs hq14) nst_X9 cv_Qu_within rfl ⟨rfl, rfl⟩ ⟨Nat.le_of_ble_eq_true rfl, Nat.le_of_ble_eq_true rfl⟩ ⟨Nat.le_of_ble_eq_true rfl, Nat.le_of_ble_eq_true rfl⟩ (Nat.le_of_ble_eq_true rfl) rfl (fun hr14 hs14 => ?_)
    refine p_X9_48 h dX9_begin_56 ht hC hr14 ?_
    refine r_os hf (fun s15 hf => ?_)
    refine r_rS h (fun hs15 => ?_)
    refine r_iconst h dX9_begin_59 ?_
    refine r_istore_n h [(3, .int (vI 0)), (2, .int (vI x1_)), (0, .ref (ad t)), (1, .int (vI a1))] dX9_begin_60 rfl (by decide) rfl ?_
    refine r_sub h [2, 1, 0] rfl ?_
    exact b_Ta_begin_61 h hr hw ht hC rx1_ FU 0 s15 (rIc rfl) hf
  · have hf := ite_nf hc4 hf
    exact r_ret0 (x := 0) hr dX9_begin_16 hf
set_option maxRecDepth 20000 in
theorem m_Ta_isOver {l : Launch} {D : va_G} {cs : Nat → ClassId} {aS aV : Nat} {A : Nat → Prop} {ad : Nat → Nat} {n : Nat} {nl : Nat → Nat → Bool} {out : Int × SS} (hw : w_WH n nl) {t : Nat} (ht : t < n) (hC : rC t = 9) {s0 : SS} (hs0 : rS s0) (hf : f_Ta_isOver t s0 = some out) : w_MC l D cs aS aV A yX9_isOver cX9_isOver 1 2 rm_Ta_isOver ad n nl [.ref (ad t)] s0 (w_Po ad n nl out) := by
  refine w_MC_of (by decide +kernel) (by decide) hs0 (Nat.le_of_ble_eq_true rfl) (fun K h hr => ?_)
  refine r_lv (lv' := [(0, .ref (ad t))]) rfl ?_
  unfold f_Ta_isOver at hf
  refine r_rS h (fun hs0 => ?_)
  refine r_aload_n h dX9_isOver_0 rfl 0 rfl ?_
  refine g_X9_35 h dX9_isOver_1 ht hC ?_
  refine r_if_le (tgt := 14) h dX9_isOver_4 (by decide) (hs0.1 _ _) (fun hc1 => ?_) (fun hc1 => ?_)
  · have hf := ite_t hc1 hf
    refine r_iconst h dX9_isOver_14 ?_
    refine r_goto (tgt := 19) h dX9_isOver_15 (by decide) ?_
    exact r_ret2 hr dX9_isOver_19 (Or.inr rfl) hf
  · have hf := ite_f hc1 hf
    refine r_aload_n h dX9_isOver_7 rfl 0 rfl ?_
    refine g_X9_48 h dX9_isOver_8 ht hC ?_
    refine r_if_gt (tgt := 18) h dX9_isOver_11 (by decide) (hs0.1 _ _) (fun hc2 => ?_) (fun hc2 => ?_)
    · have hf := ite_t hc2 hf
      refine r_iconst h dX9_isOver_18 ?_
      exact r_ret2 hr dX9_isOver_19 (Or.inl rfl) hf
    · have hf := ite_f hc2 hf
      refine r_iconst h dX9_isOver_14 ?_
      refine r_goto (tgt := 19) h dX9_isOver_15 (by decide) ?_
      exact r_ret2 hr dX9_isOver_19 (Or.inr rfl) hf
set_option maxRecDepth 20000 in
theorem b_Ta_say_29 {l : Launch} {D : va_G} {cs : Nat → ClassId} {aS aV : Nat} {A : Nat → Prop} {K : KT} {ad : Nat → Nat} {n : Nat} {nl : Nat → Nat → Bool} {out : Int × SS} (h : w_Cl l rm_Ta_say D cs aS aV A cX9_say 5 RX9 "say" K) (hr : w_Rt 0 cX9_say 0 0 (w_Po ad n nl out) K) (hw : w_WH n nl) {t : Nat} (ht : t < n) (hC : rC t = 9) {u1 : Nat} (pu1 : u1 < n) (pc1 : rC u1 = 14) (z0 : Int) (s0 : SS) (rz0 : rI z0) (hf : j_Ta_say_29 t u1 z0 s0 = some out) : K ad n nl 0 0 29 [(0, .ref (ad t)), (1, .ref (ad u1))] [.int (vI z0)] s0 := by
  unfold j_Ta_say_29 at hf
  refine r_rS h (fun hs0 => ?_)
  refine r_istore_n h [(2, .int (vI z0)), (0, .ref (ad t)), (1, .ref (ad u1))] dX9_say_29 rfl (by decide) rfl ?_
  refine r_aload_n h dX9_say_30 rfl 1 rfl ?_
  refine g_X9_48 h dX9_say_31 ht hC ?_
  refine r_if_le (tgt := 67) h dX9_say_34 (by decide) (hs0.1 _ _) (fun hc1 => ?_) (fun hc1 => ?_)
  · have hf := ite_t hc1 hf
    exact r_ret0 (x := 0) hr dX9_say_67 hf
  · have hf := ite_f hc1 hf
    refine r_aload_n h dX9_say_37 rfl 1 rfl ?_
    refine g_X9_48 h dX9_say_38 ht hC ?_
    refine r_bipush h dX9_say_41 (by decide) ?_
    refine r_icmp_gt (tgt := 67) h dX9_say_43 (by decide) (hs0.1 _ _) (rIc rfl) (fun hc2 => ?_) (fun hc2 => ?_)
    · have hf := ite_t hc2 hf
      exact r_ret0 (x := 0) hr dX9_say_67 hf
    · have hf := ite_f hc2 hf
      refine r_aload_n h dX9_say_46 rfl 1 rfl ?_
      have hq3c := rf_9_0 _ hC
      have hq3 := w_ref hw ht hC (by decide) (k := 0) (by decide) hq3c.1
      refine g_X9_18 h dX9_say_47 ht hC hq3.1 ?_
      refine r_iload_n h dX9_say_50 rfl 0 rfl ?_
      obtain ⟨r4, s4, hq4, hf⟩ := ob_some hf
      refine r_callV2 h [.int (vI z0)] dX9_say_51 (fun hs => m_La_isSoul hw hq3.2 hq3c.2.1 rz0 hs hq4) ml_X9_53 cv_La_isSoul rfl (co := 4) rfl (by decide) hq3.2 hq3c.2.1 ⟨rfl, rfl⟩ ⟨Nat.le_of_ble_eq_true rfl, Nat.le_of_ble_eq_true rfl⟩ ⟨Nat.le_of_ble_eq_true rfl, Nat.le_of_ble_eq_true rfl⟩ (Nat.le_of_ble_eq_true rfl) rfl (fun hr4 hs4 => ?_)
      refine r_if_eq (tgt := 67) h dX9_say_54 (by decide) (rI_b hr4) (fun hc5 => ?_) (fun hc5 => ?_)
      · have hf := ite_t hc5 hf
        exact r_ret0 (x := 0) hr dX9_say_67 hf
      · have hf := ite_f hc5 hf
        refine r_iconst h dX9_say_57 ?_
        refine r_iload_n h dX9_say_58 rfl 0 rfl ?_
        refine r_imul h dX9_say_59 ?_
        refine r_iconst h dX9_say_60 ?_
        refine r_iadd h dX9_say_61 ?_
        refine r_aload_n h dX9_say_62 rfl 2 rfl ?_
        refine r_alen h dX9_say_63 pu1 pc1 (Or.inr (Or.inl rfl)) rfl ?_
        refine r_icmp_lt (tgt := 68) h dX9_say_64 (by decide) (rI_iw _) (rI_rN _) (fun hc6 => ?_) (fun hc6 => ?_)
        · have hf := ite_t hc6 hf
          refine r_aload_n h dX9_say_68 rfl 1 rfl ?_
          refine r_dup h dX9_say_69 rfl ?_
          refine g_X9_48 h dX9_say_70 ht hC ?_
          refine r_iconst h dX9_say_73 ?_
          refine r_isub h dX9_say_74 ?_
          refine p_X9_48 h dX9_say_75 ht hC (rI_iw _) ?_
          refine r_os hf (fun s7 hf => ?_)
          refine r_rS h (fun hs7 => ?_)
          refine r_aload_n h dX9_say_78 rfl 1 rfl ?_
          refine r_dup h dX9_say_79 rfl ?_
          refine g_X9_38 h dX9_say_80 ht hC ?_
          refine r_iconst h dX9_say_83 ?_
          refine r_iadd h dX9_say_84 ?_
          refine p_X9_38 h dX9_say_85 ht hC (rI_iw _) ?_
          refine r_os hf (fun s8 hf => ?_)
          refine r_rS h (fun hs8 => ?_)
          refine r_aload_n h dX9_say_88 rfl 1 rfl ?_
          have hq9c := rf_9_1 _ hC
          have hq9 := w_ref hw ht hC (by decide) (k := 1) (by decide) hq9c.1
          refine g_X9_9 h dX9_say_89 ht hC hq9.1 ?_
          refine r_iconst h dX9_say_92 ?_
          refine r_aload_n h dX9_say_93 rfl 1 rfl ?_
          refine g_X9_35 h dX9_say_94 ht hC ?_
          refine r_iast h dX9_say_97 hq9.2 hq9c.2.1 (rIc rfl) (N := 6) (by rw [hq9c.2.2]; rfl) (j := 0) rfl (by decide) (hs8.1 _ _) ?_
          refine r_os hf (fun s10 hf => ?_)
          refine r_rS h (fun hs10 => ?_)
          refine r_aload_n h dX9_say_98 rfl 1 rfl ?_
          have hq11c := rf_9_1 _ hC
          have hq11 := w_ref hw ht hC (by decide) (k := 1) (by decide) hq11c.1
          refine g_X9_9 h dX9_say_99 ht hC hq11.1 ?_
          refine r_iconst h dX9_say_102 ?_
          refine r_aload_n h dX9_say_103 rfl 1 rfl ?_
          have hq12c := rf_9_2 _ hC
          have hq12 := w_ref hw ht hC (by decide) (k := 2) (by decide) hq12c.1
          refine g_X9_15 h dX9_say_104 ht hC hq12.1 ?_
          refine r_aload_n h dX9_say_107 rfl 1 rfl ?_
          refine g_X9_48 h dX9_say_108 ht hC ?_
          obtain ⟨hi13, hf⟩ := oc_some hf
          refine r_iald h dX9_say_111 hq12.2 hq12c.2.1 (hs10.1 _ _) (N := 20) (by rw [hq12c.2.2]; rfl) (j := (gi s10 t 6).toNat) rfl hi13 ?_
          refine r_iast h dX9_say_112 hq11.2 hq11c.2.1 (rIc rfl) (N := 6) (by rw [hq11c.2.2]; rfl) (j := 1) rfl (by decide) (hs10.1 _ _) ?_
          refine r_os hf (fun s14 hf => ?_)
          refine r_rS h (fun hs14 => ?_)
          refine r_aload_n h dX9_say_113 rfl 1 rfl ?_
          have hq15c := rf_9_1 _ hC
          have hq15 := w_ref hw ht hC (by decide) (k := 1) (by decide) hq15c.1
          refine g_X9_9 h dX9_say_114 ht hC hq15.1 ?_
          refine r_iconst h dX9_say_117 ?_
          refine r_aload_n h dX9_say_118 rfl 2 rfl ?_
          refine r_iconst h dX9_say_119 ?_
          refine r_iload_n h dX9_say_120 rfl 0 rfl ?_
          refine r_imul h dX9_say_121 ?_
          obtain ⟨hi16, hf⟩ := oc_some hf
          refine r_iald h dX9_say_122 pu1 pc1 (rI_iw _) rfl (j := (iw (2 * z0)).toNat) rfl hi16 ?_
          refine r_iast h dX9_say_123 hq15.2 hq15c.2.1 (rIc rfl) (N := 6) (by rw [hq15c.2.2]; rfl) (j := 2) rfl (by decide) (hs14.1 _ _) ?_
          refine r_os hf (fun s17 hf => ?_)
          refine r_rS h (fun hs17 => ?_)
          refine r_aload_n h dX9_say_124 rfl 1 rfl ?_
          have hq18c := rf_9_1 _ hC
          have hq18 := w_ref hw ht hC (by decide) (k := 1) (by decide) hq18c.1
          refine g_X9_9 h dX9_say_125 ht hC hq18.1 ?_
          refine r_iconst h dX9_say_128 ?_
          refine r_aload_n h dX9_say_129 rfl 2 rfl ?_
          refine r_iconst h dX9_say_130 ?_
          refine r_iload_n h dX9_say_131 rfl 0 rfl ?_
          refine r_imul h dX9_say_132 ?_
          refine r_iconst h dX9_say_133 ?_
          refine r_iadd h dX9_say_134 ?_
          obtain ⟨hi19, hf⟩ := oc_some hf
          refine r_iald h dX9_say_135 pu1 pc1 (rI_iw _) rfl (j := (iw ((iw (2 * z0)) + 1)).toNat) rfl hi19 ?_
          refine r_iast h dX9_say_136 hq18.2 hq18c.2.1 (rIc rfl) (N := 6) (by rw [hq18c.2.2]; rfl) (j := 3) rfl (by decide) (hs17.1 _ _) ?_
          refine r_os hf (fun s20 hf => ?_)
          refine r_rS h (fun hs20 => ?_)
          refine r_aload_n h dX9_say_137 rfl 1 rfl ?_
          have hq21c := rf_9_1 _ hC
          have hq21 := w_ref hw ht hC (by decide) (k := 1) (by decide) hq21c.1
          refine g_X9_9 h dX9_say_138 ht hC hq21.1 ?_
          refine r_iconst h dX9_say_141 ?_
          refine r_aload_n h dX9_say_142 rfl 1 rfl ?_
          refine g_X9_38 h dX9_say_143 ht hC ?_
          refine r_iast h dX9_say_146 hq21.2 hq21c.2.1 (rIc rfl) (N := 6) (by rw [hq21c.2.2]; rfl) (j := 4) rfl (by decide) (hs20.1 _ _) ?_
          refine r_os hf (fun s22 hf => ?_)
          refine r_rS h (fun hs22 => ?_)
          refine r_aload_n h dX9_say_147 rfl 1 rfl ?_
          have hq23c := rf_9_1 _ hC
          have hq23 := w_ref hw ht hC (by decide) (k := 1) (by decide) hq23c.1
          refine g_X9_9 h dX9_say_148 ht hC hq23.1 ?_
          refine r_iconst h dX9_say_151 ?_
          refine r_aload_n h dX9_say_152 rfl 1 rfl ?_
          refine g_X9_48 h dX9_say_153 ht hC ?_
          refine r_iast h dX9_say_156 hq23.2 hq23c.2.1 (rIc rfl) (N := 6) (by rw [hq23c.2.2]; rfl) (j := 5) rfl (by decide) (hs22.1 _ _) ?_
          refine r_os hf (fun s24 hf => ?_)
          refine r_rS h (fun hs24 => ?_)
          refine r_aload_n h dX9_say_157 rfl 1 rfl ?_
          have hq25c := rf_9_0 _ hC
          have hq25 := w_ref hw ht hC (by decide) (k := 0) (by decide) hq25c.1
          refine g_X9_18 h dX9_say_158 ht hC hq25.1 ?_
          have hq26c := rf_4_18 _ hq25c.2.1
          have hq26 := w_ref hw hq25.2 hq25c.2.1 (by decide) (k := 18) (by decide) hq26c.1
          refine g_X9_56 h dX9_say_161 hq25.2 hq25c.2.1 hq26.1 ?_
          refine r_st (st0 := [.ref (ad 16)]) rfl ?_
          refine r_aload_n h dX9_say_164 rfl 1 rfl ?_
          have hq27c := rf_9_1 _ hC
          have hq27 := w_ref hw ht hC (by decide) (k := 1) (by decide) hq27c.1
          refine g_X9_9 h dX9_say_165 ht hC hq27.1 ?_
          refine r_aload_n h dX9_say_168 rfl 1 rfl ?_
          refine g_X9_35 h dX9_say_169 ht hC ?_
          refine r_iconst h dX9_say_172 ?_
          refine r_isub h dX9_say_173 ?_
          obtain ⟨r28, s28, hq28, hf⟩ := ob_some hf
          refine r_callV1 h [.ref (ad (t + 1)), .int (vI (iw ((gi s24 t 4) - 1)))] dX9_say_174 (fun hs => m_Fo_answer hw hq26.2 rC_16 hq27.2 hq27c.2.1 (rI_iw _) hs hq28) ml_X9_60 cv_Fo_answer rfl (co := 2) rfl (by decide) hq26.2 rC_16 ⟨rfl, rfl⟩ ⟨Nat.le_of_ble_eq_true rfl, Nat.le_of_ble_eq_true rfl⟩ ⟨Nat.le_of_ble_eq_true rfl, Nat.le_of_ble_eq_true rfl⟩ (Nat.le_of_ble_eq_true rfl) rfl (fun hr28 hs28 => ?_)
          refine r_istore_n h [(3, .int (vI r28)), (2, .int (vI z0)), (0, .ref (ad t)), (1, .ref (ad u1))] dX9_say_177 rfl (by decide) rfl ?_
          refine r_aload_n h dX9_say_178 rfl 2 rfl ?_
          have hq29c := rf_9_0 _ hC
          have hq29 := w_ref hw ht hC (by decide) (k := 0) (by decide) hq29c.1
          refine g_X9_18 h dX9_say_179 ht hC hq29.1 ?_
          have hq30c := rf_4_19 _ hq29c.2.1
          have hq30 := w_ref hw hq29.2 hq29c.2.1 (by decide) (k := 19) (by decide) hq30c.1
          refine g_X9_66 h dX9_say_182 hq29.2 hq29c.2.1 hq30.1 ?_
          refine r_st (st0 := [.ref (ad 19)]) rfl ?_
          refine r_aload_n h dX9_say_185 rfl 2 rfl ?_
          have hq31c := rf_9_1 _ hC
          have hq31 := w_ref hw ht hC (by decide) (k := 1) (by decide) hq31c.1
          refine g_X9_9 h dX9_say_186 ht hC hq31.1 ?_
          refine r_iconst h dX9_say_189 ?_
          obtain ⟨r32, s32, hq32, hf⟩ := ob_some hf
          refine r_callV1 h [.ref (ad (t + 1)), .int (vI 0)] dX9_say_190 (fun hs => m_Fo_answer hw hq30.2 rC_19 hq31.2 hq31c.2.1 (rIc rfl) hs hq32) ml_X9_60 cv_Fo_answer rfl (co := 2) rfl (by decide) hq30.2 rC_19 ⟨rfl, rfl⟩ ⟨Nat.le_of_ble_eq_true rfl, Nat.le_of_ble_eq_true rfl⟩ ⟨Nat.le_of_ble_eq_true rfl, Nat.le_of_ble_eq_true rfl⟩ (Nat.le_of_ble_eq_true rfl) rfl (fun hr32 hs32 => ?_)
          refine r_istore h [(4, .int (vI r32)), (3, .int (vI r28)), (2, .int (vI z0)), (0, .ref (ad t)), (1, .ref (ad u1))] dX9_say_193 (by decide) rfl ?_
          refine r_aload_n h dX9_say_195 rfl 3 rfl ?_
          refine r_iconst h dX9_say_196 ?_
          refine r_iload_n h dX9_say_197 rfl 1 rfl ?_
          refine r_bipush h dX9_say_198 (by decide) ?_
          obtain ⟨r33, s33, hq33, hf⟩ := ob_some hf
          refine r_callSN1 h [.int (vI 0), .int (vI r28), .int (vI 99)] dX9_say_200 (fun hs => m_Qu_within hw (rIc rfl) hr28 (rIc rfl) hs hq33) nst_X9 cv_Qu_within rfl ⟨rfl, rfl⟩ ⟨Nat.le_of_ble_eq_true rfl, Nat.le_of_ble_eq_true rfl⟩ ⟨Nat.le_of_ble_eq_true rfl, Nat.le_of_ble_eq_true rfl⟩ (Nat.le_of_ble_eq_true rfl) rfl (fun hr33 hs33 => ?_)
          refine p_X9_35 h dX9_say_203 ht hC hr33 ?_
          refine r_os hf (fun s34 hf => ?_)
          refine r_rS h (fun hs34 => ?_)
          refine r_iload h dX9_say_206 0 rfl ?_
          refine r_if_le (tgt := 237) h dX9_say_208 (by decide) hr32 (fun hc35 => ?_) (fun hc35 => ?_)
          · have hf := ite_t hc35 hf
            exact r_ret0 (x := 0) hr dX9_say_237 hf
          · have hf := ite_f hc35 hf
            refine r_aload_n h dX9_say_211 rfl 3 rfl ?_
            have hq36c := rf_9_2 _ hC
            have hq36 := w_ref hw ht hC (by decide) (k := 2) (by decide) hq36c.1
            refine g_X9_15 h dX9_say_212 ht hC hq36.1 ?_
            refine r_aload_n h dX9_say_215 rfl 3 rfl ?_
            refine g_X9_48 h dX9_say_216 ht hC ?_
            refine r_iload h dX9_say_219 0 rfl ?_
            refine r_bipush h dX9_say_221 (by decide) ?_
            refine r_mmin h dX9_say_223 (gt_in4 127 rfl rfl) ms_mmin.1 ms_mmin.2.1 ms_mmin.2.2 (Nat.le_of_ble_eq_true rfl) (Nat.le_of_ble_eq_true rfl) (Nat.le_of_ble_eq_true rfl) (Nat.le_of_ble_eq_true rfl) hr32 (rIc rfl) ?_
            obtain ⟨hi37, hf⟩ := oc_some hf
            refine r_iast h dX9_say_226 hq36.2 hq36c.2.1 (hs34.1 _ _) (N := 20) (by rw [hq36c.2.2]; rfl) (j := (gi s34 t 6).toNat) rfl hi37 (rI_zmin hr32 (rIc rfl)) ?_
            refine r_os hf (fun s38 hf => ?_)
            refine r_rS h (fun hs38 => ?_)
            refine r_aload_n h dX9_say_227 rfl 3 rfl ?_
            refine r_dup h dX9_say_228 rfl ?_
            refine g_X9_48 h dX9_say_229 ht hC ?_
            refine r_iconst h dX9_say_232 ?_
            refine r_iadd h dX9_say_233 ?_
            refine p_X9_48 h dX9_say_234 ht hC (rI_iw _) ?_
            refine r_os hf (fun s39 hf => ?_)
            refine r_rS h (fun hs39 => ?_)
            exact r_ret0 (x := 0) hr dX9_say_237 hf
        · have hf := ite_f hc6 hf
          exact r_ret0 (x := 0) hr dX9_say_67 hf
set_option maxRecDepth 20000 in
theorem m_Ta_say {l : Launch} {D : va_G} {cs : Nat → ClassId} {aS aV : Nat} {A : Nat → Prop} {ad : Nat → Nat} {n : Nat} {nl : Nat → Nat → Bool} {out : Int × SS} (hw : w_WH n nl) {t : Nat} (ht : t < n) (hC : rC t = 9) {u1 : Nat} (pu1 : u1 < n) (pc1 : rC u1 = 14) {s0 : SS} (hs0 : rS s0) (hf : f_Ta_say t u1 s0 = some out) : w_MC l D cs aS aV A yX9_say cX9_say 5 0 rm_Ta_say ad n nl [.ref (ad t), .ref (ad u1)] s0 (w_Po ad n nl out) := by
  refine w_MC_of (by decide +kernel) (by decide) hs0 (Nat.le_of_ble_eq_true rfl) (fun K h hr => ?_)
  refine r_lv (lv' := [(0, .ref (ad t)), (1, .ref (ad u1))]) rfl ?_
  unfold f_Ta_say at hf
  refine r_rS h (fun hs0 => ?_)
  refine r_aload_n h dX9_say_0 rfl 0 rfl ?_
  refine g_X9_38 h dX9_say_1 ht hC ?_
  refine r_iconst h dX9_say_4 ?_
  refine r_irem h dX9_say_5 (hs0.1 _ _) (rIc rfl) (by decide) ?_
  refine r_if_ne (tgt := 19) h dX9_say_6 (by decide) (rI_tmod (hs0.1 _ _) (rIc rfl)) (fun hc1 => ?_) (fun hc1 => ?_)
  · have hf := ite_f hc1 hf
    refine r_aload_n h dX9_say_19 rfl 0 rfl ?_
    refine g_X9_28 h dX9_say_20 ht hC ?_
    refine r_bipush h dX9_say_23 (by decide) ?_
    refine r_idivP h dX9_say_25 (hs0.1 _ _) (rIc rfl) (by decide) ?_
    refine r_bipush h dX9_say_26 (by decide) ?_
    refine r_irem h dX9_say_28 (rI_tdivP (hs0.1 _ _) (by decide)) (rIc rfl) (by decide) ?_
    exact b_Ta_say_29 h hr hw ht hC pu1 pc1 (Int.tmod (Int.tdiv (gi s0 t 3) 10) 10) s0 (rI_tmod (rI_tdivP (hs0.1 _ _) (by decide)) (rIc rfl)) hf
  · have hf := ite_nf hc1 hf
    refine r_aload_n h dX9_say_9 rfl 0 rfl ?_
    refine g_X9_28 h dX9_say_10 ht hC ?_
    refine r_bipush h dX9_say_13 (by decide) ?_
    refine r_idivP h dX9_say_15 (hs0.1 _ _) (rIc rfl) (by decide) ?_
    refine r_goto (tgt := 29) h dX9_say_16 (by decide) ?_
    exact b_Ta_say_29 h hr hw ht hC pu1 pc1 (Int.tdiv (gi s0 t 3) 100) s0 (rI_tdivP (hs0.1 _ _) (by decide)) hf
set_option maxRecDepth 20000 in
theorem m_Ta_sayOnWay {l : Launch} {D : va_G} {cs : Nat → ClassId} {aS aV : Nat} {A : Nat → Prop} {ad : Nat → Nat} {n : Nat} {nl : Nat → Nat → Bool} {out : Int × SS} (hw : w_WH n nl) {t : Nat} (ht : t < n) (hC : rC t = 9) {u1 : Nat} (pu1 : u1 < n) (pc1 : rC u1 = 14) {a2 : Int} (ra2 : rI a2) {a3 : Int} (ra3 : rI a3) {a4 : Int} (ra4 : rI a4) {s0 : SS} (hs0 : rS s0) (hf : f_Ta_sayOnWay t u1 a2 a3 a4 s0 = some out) : w_MC l D cs aS aV A yX9_sayOnWay cX9_sayOnWay 5 0 rm_Ta_sayOnWay ad n nl [.ref (ad t), .ref (ad u1), .int (vI a2), .int (vI a3), .int (vI a4)] s0 (w_Po ad n nl out) := by
  refine w_MC_of (by decide +kernel) (by decide) hs0 (Nat.le_of_ble_eq_true rfl) (fun K h hr => ?_)
  refine r_lv (lv' := [(0, .ref (ad t)), (1, .ref (ad u1)), (2, .int (vI a2)), (3, .int (vI a3)), (4, .int (vI a4))]) rfl ?_
  unfold f_Ta_sayOnWay at hf
  refine r_rS h (fun hs0 => ?_)
  refine r_aload_n h dX9_sayOnWay_0 rfl 0 rfl ?_
  refine r_aload_n h dX9_sayOnWay_1 rfl 1 rfl ?_
  obtain ⟨r1, s1, hq1, hf⟩ := ob_some hf
  refine r_callV0 h [.ref (ad u1)] dX9_sayOnWay_2 (fun hs => m_Ta_say hw ht hC pu1 pc1 hs hq1) ml_X9_75 cv_Ta_say rfl (co := 9) rfl (by decide) ht hC ⟨rfl, rfl⟩ ⟨Nat.le_of_ble_eq_true rfl, Nat.le_of_ble_eq_true rfl⟩ ⟨Nat.le_of_ble_eq_true rfl, Nat.le_of_ble_eq_true rfl⟩ (Nat.le_of_ble_eq_true rfl) rfl (fun hr1 hs1 => ?_)
  refine r_aload_n h dX9_sayOnWay_5 rfl 0 rfl ?_
  have hq2c := rf_9_0 _ hC
  have hq2 := w_ref hw ht hC (by decide) (k := 0) (by decide) hq2c.1
  refine g_X9_18 h dX9_sayOnWay_6 ht hC hq2.1 ?_
  refine r_iload_n h dX9_sayOnWay_9 rfl 2 rfl ?_
  obtain ⟨r3, s3, hq3, hf⟩ := ob_some hf
  refine r_callV2 h [.int (vI a2)] dX9_sayOnWay_10 (fun hs => m_La_isWay hw hq2.2 hq2c.2.1 ra2 hs hq3) ml_X9_79 cv_La_isWay rfl (co := 4) rfl (by decide) hq2.2 hq2c.2.1 ⟨rfl, rfl⟩ ⟨Nat.le_of_ble_eq_true rfl, Nat.le_of_ble_eq_true rfl⟩ ⟨Nat.le_of_ble_eq_true rfl, Nat.le_of_ble_eq_true rfl⟩ (Nat.le_of_ble_eq_true rfl) rfl (fun hr3 hs3 => ?_)
  refine r_if_eq (tgt := 28) h dX9_sayOnWay_13 (by decide) (rI_b hr3) (fun hc4 => ?_) (fun hc4 => ?_)
  · have hf := ite_t hc4 hf
    exact r_ret0 (x := 0) hr dX9_sayOnWay_28 hf
  · have hf := ite_f hc4 hf
    refine r_aload_n h dX9_sayOnWay_16 rfl 0 rfl ?_
    have hq5c := rf_9_0 _ hC
    have hq5 := w_ref hw ht hC (by decide) (k := 0) (by decide) hq5c.1
    refine g_X9_18 h dX9_sayOnWay_17 ht hC hq5.1 ?_
    refine r_iload h dX9_sayOnWay_20 4 rfl ?_
    obtain ⟨r6, s6, hq6, hf⟩ := ob_some hf
    refine r_callV2 h [.int (vI a4)] dX9_sayOnWay_22 (fun hs => m_La_isPlace hw hq5.2 hq5c.2.1 ra4 hs hq6) ml_X9_82 cv_La_isPlace rfl (co := 4) rfl (by decide) hq5.2 hq5c.2.1 ⟨rfl, rfl⟩ ⟨Nat.le_of_ble_eq_true rfl, Nat.le_of_ble_eq_true rfl⟩ ⟨Nat.le_of_ble_eq_true rfl, Nat.le_of_ble_eq_true rfl⟩ (Nat.le_of_ble_eq_true rfl) rfl (fun hr6 hs6 => ?_)
    refine r_if_ne (tgt := 29) h dX9_sayOnWay_25 (by decide) (rI_b hr6) (fun hc7 => ?_) (fun hc7 => ?_)
    · have hf := ite_f hc7 hf
      refine r_aload_n h dX9_sayOnWay_29 rfl 0 rfl ?_
      refine r_iconst h dX9_sayOnWay_30 ?_
      refine r_aload_n h dX9_sayOnWay_31 rfl 0 rfl ?_
      refine g_X9_35 h dX9_sayOnWay_32 ht hC ?_
      refine r_aload_n h dX9_sayOnWay_35 rfl 0 rfl ?_
      have hq8c := rf_9_0 _ hC
      have hq8 := w_ref hw ht hC (by decide) (k := 0) (by decide) hq8c.1
      refine g_X9_18 h dX9_sayOnWay_36 ht hC hq8.1 ?_
      have hq9c := rf_4_8 _ hq8c.2.1
      have hq9 := w_ref hw hq8.2 hq8c.2.1 (by decide) (k := 8) (by decide) hq9c.1
      refine g_X9_85 h dX9_sayOnWay_39 hq8.2 hq8c.2.1 hq9.1 ?_
      refine r_st (st0 := [.ref (ad 9), .int (vI (gi s6 t 4)), .int (vI 0), .ref (ad t)]) rfl ?_
      refine r_iload_n h dX9_sayOnWay_42 rfl 2 rfl ?_
      obtain ⟨hi10, hf⟩ := oc_some hf
      refine r_iald h dX9_sayOnWay_43 hq9.2 rC_9 ra2 (N := 14) (by rw [rN_9]; rfl) (j := (a2).toNat) rfl hi10 ?_
      refine r_iadd h dX9_sayOnWay_44 ?_
      refine r_bipush h dX9_sayOnWay_45 (by decide) ?_
      obtain ⟨r11, s11, hq11, hf⟩ := ob_some hf
      refine r_callSN1 h [.int (vI 0), .int (vI (iw ((gi s6 t 4) + (gi s6 9 ((a2).toNat))))), .int (vI 99)] dX9_sayOnWay_47 (fun hs => m_Qu_within hw (rIc rfl) (rI_iw _) (rIc rfl) hs hq11) nst_X9 cv_Qu_within rfl ⟨rfl, rfl⟩ ⟨Nat.le_of_ble_eq_true rfl, Nat.le_of_ble_eq_true rfl⟩ ⟨Nat.le_of_ble_eq_true rfl, Nat.le_of_ble_eq_true rfl⟩ (Nat.le_of_ble_eq_true rfl) rfl (fun hr11 hs11 => ?_)
      refine p_X9_35 h dX9_sayOnWay_50 ht hC hr11 ?_
      refine r_os hf (fun s12 hf => ?_)
      refine r_rS h (fun hs12 => ?_)
      refine r_iload_n h dX9_sayOnWay_53 rfl 3 rfl ?_
      refine r_aload_n h dX9_sayOnWay_54 rfl 0 rfl ?_
      have hq13c := rf_9_0 _ hC
      have hq13 := w_ref hw ht hC (by decide) (k := 0) (by decide) hq13c.1
      refine g_X9_18 h dX9_sayOnWay_55 ht hC hq13.1 ?_
      have hq14c := rf_4_7 _ hq13c.2.1
      have hq14 := w_ref hw hq13.2 hq13c.2.1 (by decide) (k := 7) (by decide) hq14c.1
      refine g_X9_88 h dX9_sayOnWay_58 hq13.2 hq13c.2.1 hq14.1 ?_
      refine r_st (st0 := [.ref (ad 8), .int (vI a3)]) rfl ?_
      refine r_iload_n h dX9_sayOnWay_61 rfl 2 rfl ?_
      obtain ⟨hi15, hf⟩ := oc_some hf
      refine r_iald h dX9_sayOnWay_62 hq14.2 rC_8 ra2 (N := 14) (by rw [rN_8]; rfl) (j := (a2).toNat) rfl hi15 ?_
      refine r_icmp_ge (tgt := 67) h dX9_sayOnWay_63 (by decide) ra3 (hs12.1 _ _) (fun hc16 => ?_) (fun hc16 => ?_)
      · have hf := ite_t hc16 hf
        refine r_aload_n h dX9_sayOnWay_67 rfl 0 rfl ?_
        refine r_iconst h dX9_sayOnWay_68 ?_
        refine r_aload_n h dX9_sayOnWay_69 rfl 0 rfl ?_
        refine g_X9_35 h dX9_sayOnWay_70 ht hC ?_
        refine r_aload_n h dX9_sayOnWay_73 rfl 0 rfl ?_
        have hq17c := rf_9_0 _ hC
        have hq17 := w_ref hw ht hC (by decide) (k := 0) (by decide) hq17c.1
        refine g_X9_18 h dX9_sayOnWay_74 ht hC hq17.1 ?_
        have hq18c := rf_4_2 _ hq17c.2.1
        have hq18 := w_ref hw hq17.2 hq17c.2.1 (by decide) (k := 2) (by decide) hq18c.1
        refine g_X9_91 h dX9_sayOnWay_77 hq17.2 hq17c.2.1 hq18.1 ?_
        refine r_st (st0 := [.ref (ad 4), .int (vI (gi s12 t 4)), .int (vI 0), .ref (ad t)]) rfl ?_
        refine r_iload h dX9_sayOnWay_80 4 rfl ?_
        obtain ⟨hi19, hf⟩ := oc_some hf
        refine r_iald h dX9_sayOnWay_82 hq18.2 rC_4 ra4 (N := 8) (by rw [rN_4]; rfl) (j := (a4).toNat) rfl hi19 ?_
        refine r_isub h dX9_sayOnWay_83 ?_
        refine r_mmax h dX9_sayOnWay_84 (gt_in4 184 rfl rfl) ms_mmax.1 ms_mmax.2.1 ms_mmax.2.2 (Nat.le_of_ble_eq_true rfl) (Nat.le_of_ble_eq_true rfl) (Nat.le_of_ble_eq_true rfl) (Nat.le_of_ble_eq_true rfl) (rIc rfl) (rI_iw _) ?_
        refine p_X9_35 h dX9_sayOnWay_87 ht hC (rI_zmax (rIc rfl) (rI_iw _)) ?_
        refine r_os hf (fun s20 hf => ?_)
        refine r_rS h (fun hs20 => ?_)
        refine r_aload_n h dX9_sayOnWay_90 rfl 0 rfl ?_
        have hq21c := rf_9_0 _ hC
        have hq21 := w_ref hw ht hC (by decide) (k := 0) (by decide) hq21c.1
        refine g_X9_18 h dX9_sayOnWay_91 ht hC hq21.1 ?_
        have hq22c := rf_4_3 _ hq21c.2.1
        have hq22 := w_ref hw hq21.2 hq21c.2.1 (by decide) (k := 3) (by decide) hq22c.1
        refine g_X9_97 h dX9_sayOnWay_94 hq21.2 hq21c.2.1 hq22.1 ?_
        refine r_st (st0 := [.ref (ad 5)]) rfl ?_
        refine r_iload h dX9_sayOnWay_97 4 rfl ?_
        obtain ⟨hi23, hf⟩ := oc_some hf
        refine r_iald h dX9_sayOnWay_99 hq22.2 rC_5 ra4 (N := 8) (by rw [rN_5]; rfl) (j := (a4).toNat) rfl hi23 ?_
        refine r_if_le (tgt := 148) h dX9_sayOnWay_100 (by decide) (hs20.1 _ _) (fun hc24 => ?_) (fun hc24 => ?_)
        · have hf := ite_t hc24 hf
          exact r_ret0 (x := 0) hr dX9_sayOnWay_148 hf
        · have hf := ite_f hc24 hf
          refine r_aload_n h dX9_sayOnWay_103 rfl 0 rfl ?_
          refine g_X9_48 h dX9_sayOnWay_104 ht hC ?_
          refine r_if_lt (tgt := 148) h dX9_sayOnWay_107 (by decide) (hs20.1 _ _) (fun hc25 => ?_) (fun hc25 => ?_)
          · have hf := ite_t hc25 hf
            exact r_ret0 (x := 0) hr dX9_sayOnWay_148 hf
          · have hf := ite_f hc25 hf
            refine r_aload_n h dX9_sayOnWay_110 rfl 0 rfl ?_
            refine g_X9_48 h dX9_sayOnWay_111 ht hC ?_
            refine r_bipush h dX9_sayOnWay_114 (by decide) ?_
            refine r_icmp_ge (tgt := 148) h dX9_sayOnWay_116 (by decide) (hs20.1 _ _) (rIc rfl) (fun hc26 => ?_) (fun hc26 => ?_)
            · have hf := ite_t hc26 hf
              exact r_ret0 (x := 0) hr dX9_sayOnWay_148 hf
            · have hf := ite_f hc26 hf
              refine r_aload_n h dX9_sayOnWay_119 rfl 0 rfl ?_
              have hq27c := rf_9_2 _ hC
              have hq27 := w_ref hw ht hC (by decide) (k := 2) (by decide) hq27c.1
              refine g_X9_15 h dX9_sayOnWay_120 ht hC hq27.1 ?_
              refine r_aload_n h dX9_sayOnWay_123 rfl 0 rfl ?_
              refine g_X9_48 h dX9_sayOnWay_124 ht hC ?_
              refine r_aload_n h dX9_sayOnWay_127 rfl 0 rfl ?_
              have hq28c := rf_9_0 _ hC
              have hq28 := w_ref hw ht hC (by decide) (k := 0) (by decide) hq28c.1
              refine g_X9_18 h dX9_sayOnWay_128 ht hC hq28.1 ?_
              have hq29c := rf_4_3 _ hq28c.2.1
              have hq29 := w_ref hw hq28.2 hq28c.2.1 (by decide) (k := 3) (by decide) hq29c.1
              refine g_X9_97 h dX9_sayOnWay_131 hq28.2 hq28c.2.1 hq29.1 ?_
              refine r_st (st0 := [.ref (ad 5), .int (vI (gi s20 t 6)), .ref (ad (t + 2))]) rfl ?_
              refine r_iload h dX9_sayOnWay_134 4 rfl ?_
              obtain ⟨hi30, hf⟩ := oc_some hf
              refine r_iald h dX9_sayOnWay_136 hq29.2 rC_5 ra4 (N := 8) (by rw [rN_5]; rfl) (j := (a4).toNat) rfl hi30 ?_
              obtain ⟨hi31, hf⟩ := oc_some hf
              refine r_iast h dX9_sayOnWay_137 hq27.2 hq27c.2.1 (hs20.1 _ _) (N := 20) (by rw [hq27c.2.2]; rfl) (j := (gi s20 t 6).toNat) rfl hi31 (hs20.1 _ _) ?_
              refine r_os hf (fun s32 hf => ?_)
              refine r_rS h (fun hs32 => ?_)
              refine r_aload_n h dX9_sayOnWay_138 rfl 0 rfl ?_
              refine r_dup h dX9_sayOnWay_139 rfl ?_
              refine g_X9_48 h dX9_sayOnWay_140 ht hC ?_
              refine r_iconst h dX9_sayOnWay_143 ?_
              refine r_iadd h dX9_sayOnWay_144 ?_
              refine p_X9_48 h dX9_sayOnWay_145 ht hC (rI_iw _) ?_
              refine r_os hf (fun s33 hf => ?_)
              refine r_rS h (fun hs33 => ?_)
              exact r_ret0 (x := 0) hr dX9_sayOnWay_148 hf
      · have hf := ite_f hc16 hf
        exact r_ret0 (x := 0) hr dX9_sayOnWay_66 hf
    · have hf := ite_nf hc7 hf
      exact r_ret0 (x := 0) hr dX9_sayOnWay_28 hf
set_option maxRecDepth 20000 in
theorem b_Ta_talkOpenly_25 {l : Launch} {D : va_G} {cs : Nat → ClassId} {aS aV : Nat} {A : Nat → Prop} {K : KT} {ad : Nat → Nat} {n : Nat} {nl : Nat → Nat → Bool} {out : Int × SS} (h : w_Cl l rm_Ta_talkOpenly D cs aS aV A cX9_talkOpenly 4 RX9 "talkOpenly" K) (hr : w_Rt 1 cX9_talkOpenly 0 0 (w_Po ad n nl out) K) (hw : w_WH n nl) {t : Nat} (ht : t < n) (hC : rC t = 9) {u1 : Nat} (pu1 : u1 < n) (pc1 : rC u1 = 14) (s0 : SS) (hf : j_Ta_talkOpenly_25 t u1 s0 = some out) : K ad n nl 0 0 25 [(0, .ref (ad t))] [] s0 := by
  unfold j_Ta_talkOpenly_25 at hf
  refine r_rS h (fun hs0 => ?_)
  refine r_aload_n h dX9_talkOpenly_25 rfl 0 rfl ?_
  obtain ⟨r1, s1, hq1, hf⟩ := ob_some hf
  refine r_callV2 h [] dX9_talkOpenly_26 (fun hs => m_Ta_isOver hw ht hC hs hq1) ml_X9_100 cv_Ta_isOver rfl (co := 9) rfl (by decide) ht hC ⟨rfl, rfl⟩ ⟨Nat.le_of_ble_eq_true rfl, Nat.le_of_ble_eq_true rfl⟩ ⟨Nat.le_of_ble_eq_true rfl, Nat.le_of_ble_eq_true rfl⟩ (Nat.le_of_ble_eq_true rfl) rfl (fun hr1 hs1 => ?_)
  refine r_if_eq (tgt := 39) h dX9_talkOpenly_29 (by decide) (rI_b hr1) (fun hc2 => ?_) (fun hc2 => ?_)
  · have hf := ite_t hc2 hf
    refine r_iconst h dX9_talkOpenly_39 ?_
    exact r_ret1 hr dX9_talkOpenly_40 (rIc rfl) hf
  · have hf := ite_f hc2 hf
    refine r_aload_n h dX9_talkOpenly_32 rfl 0 rfl ?_
    refine g_X9_38 h dX9_talkOpenly_33 ht hC ?_
    refine r_goto (tgt := 40) h dX9_talkOpenly_36 (by decide) ?_
    exact r_ret1 hr dX9_talkOpenly_40 (hs1.1 _ _) hf
set_option maxRecDepth 20000 in
theorem b_Ta_talkOpenly_2 {l : Launch} {D : va_G} {cs : Nat → ClassId} {aS aV : Nat} {A : Nat → Prop} {K : KT} {ad : Nat → Nat} {n : Nat} {nl : Nat → Nat → Bool} {out : Int × SS} (h : w_Cl l rm_Ta_talkOpenly D cs aS aV A cX9_talkOpenly 4 RX9 "talkOpenly" K) (hr : w_Rt 1 cX9_talkOpenly 0 0 (w_Po ad n nl out) K) (hw : w_WH n nl) {t : Nat} (ht : t < n) (hC : rC t = 9) {u1 : Nat} (pu1 : u1 < n) (pc1 : rC u1 = 14) {y2 : Int} (ry2 : rI y2) : ∀ (fu : Nat) (x3 : Int) (s0 : SS), rI x3 → l_Ta_talkOpenly_2 t u1 y2 fu x3 s0 = some out → K ad n nl 0 0 2 [(0, .ref (ad t)), (1, .ref (ad u1)), (2, .int (vI y2)), (3, .int (vI x3))] [] s0 := by
  intro fu
  induction fu with
  | zero =>
    intro x3 s0 rx3 hf
    rw [l_Ta_talkOpenly_2] at hf
    cases hf
  | succ fu ih =>
    intro x3 s0 rx3 hf
    rw [l_Ta_talkOpenly_2] at hf
    refine r_rS h (fun hs0 => ?_)
    refine r_iload_n h dX9_talkOpenly_2 rfl 3 rfl ?_
    refine r_iload_n h dX9_talkOpenly_3 rfl 2 rfl ?_
    refine r_icmp_ge (tgt := 25) h dX9_talkOpenly_4 (by decide) rx3 ry2 (fun hc1 => ?_) (fun hc1 => ?_)
    · have hf := ite_t hc1 hf
      refine r_sub h [0] rfl ?_
      exact b_Ta_talkOpenly_25 h hr hw ht hC pu1 pc1 s0 hf
    · have hf := ite_f hc1 hf
      refine r_aload_n h dX9_talkOpenly_7 rfl 0 rfl ?_
      obtain ⟨r2, s2, hq2, hf⟩ := ob_some hf
      refine r_callV2 h [] dX9_talkOpenly_8 (fun hs => m_Ta_isOver hw ht hC hs hq2) ml_X9_100 cv_Ta_isOver rfl (co := 9) rfl (by decide) ht hC ⟨rfl, rfl⟩ ⟨Nat.le_of_ble_eq_true rfl, Nat.le_of_ble_eq_true rfl⟩ ⟨Nat.le_of_ble_eq_true rfl, Nat.le_of_ble_eq_true rfl⟩ (Nat.le_of_ble_eq_true rfl) rfl (fun hr2 hs2 => ?_)
      refine r_if_ne (tgt := 25) h dX9_talkOpenly_11 (by decide) (rI_b hr2) (fun hc3 => ?_) (fun hc3 => ?_)
      · have hf := ite_f hc3 hf
        refine r_sub h [0] rfl ?_
        exact b_Ta_talkOpenly_25 h hr hw ht hC pu1 pc1 s2 hf
      · have hf := ite_nf hc3 hf
        refine r_aload_n h dX9_talkOpenly_14 rfl 0 rfl ?_
        refine r_aload_n h dX9_talkOpenly_15 rfl 1 rfl ?_
        obtain ⟨r4, s4, hq4, hf⟩ := ob_some hf
        refine r_callV0 h [.ref (ad u1)] dX9_talkOpenly_16 (fun hs => m_Ta_say hw ht hC pu1 pc1 hs hq4) ml_X9_75 cv_Ta_say rfl (co := 9) rfl (by decide) ht hC ⟨rfl, rfl⟩ ⟨Nat.le_of_ble_eq_true rfl, Nat.le_of_ble_eq_true rfl⟩ ⟨Nat.le_of_ble_eq_true rfl, Nat.le_of_ble_eq_true rfl⟩ (Nat.le_of_ble_eq_true rfl) rfl (fun hr4 hs4 => ?_)
        refine r_iinc h [(3, .int (vI (iw (x3 + 1)))), (0, .ref (ad t)), (1, .ref (ad u1)), (2, .int (vI y2))] dX9_talkOpenly_19 3 rfl (by decide) rfl ?_
        refine r_goto (tgt := 2) h dX9_talkOpenly_22 (by decide) ?_
        refine r_sub h [1, 2, 3, 0] rfl ?_
        exact ih (iw (x3 + 1)) s4 (rI_iw _) hf
set_option maxRecDepth 20000 in
theorem m_Ta_talkOpenly {l : Launch} {D : va_G} {cs : Nat → ClassId} {aS aV : Nat} {A : Nat → Prop} {ad : Nat → Nat} {n : Nat} {nl : Nat → Nat → Bool} {out : Int × SS} (hw : w_WH n nl) {t : Nat} (ht : t < n) (hC : rC t = 9) {u1 : Nat} (pu1 : u1 < n) (pc1 : rC u1 = 14) {a2 : Int} (ra2 : rI a2) {s0 : SS} (hs0 : rS s0) (hf : f_Ta_talkOpenly t u1 a2 s0 = some out) : w_MC l D cs aS aV A yX9_talkOpenly cX9_talkOpenly 4 1 rm_Ta_talkOpenly ad n nl [.ref (ad t), .ref (ad u1), .int (vI a2)] s0 (w_Po ad n nl out) := by
  refine w_MC_of (by decide +kernel) (by decide) hs0 (Nat.le_of_ble_eq_true rfl) (fun K h hr => ?_)
  refine r_lv (lv' := [(0, .ref (ad t)), (1, .ref (ad u1)), (2, .int (vI a2))]) rfl ?_
  unfold f_Ta_talkOpenly at hf
  refine r_rS h (fun hs0 => ?_)
  refine r_iconst h dX9_talkOpenly_0 ?_
  refine r_istore_n h [(3, .int (vI 0)), (0, .ref (ad t)), (1, .ref (ad u1)), (2, .int (vI a2))] dX9_talkOpenly_1 rfl (by decide) rfl ?_
  refine r_sub h [1, 2, 3, 0] rfl ?_
  exact b_Ta_talkOpenly_2 h hr hw ht hC pu1 pc1 ra2 FU 0 s0 (rIc rfl) hf
set_option maxRecDepth 20000 in
theorem b_Ta_put_50 {l : Launch} {D : va_G} {cs : Nat → ClassId} {aS aV : Nat} {A : Nat → Prop} {K : KT} {ad : Nat → Nat} {n : Nat} {nl : Nat → Nat → Bool} {out : Int × SS} (h : w_Cl l rm_Ta_put D cs aS aV A cX9_put 4 RX9 "put" K) (hr : w_Rt 0 cX9_put 0 0 (w_Po ad n nl out) K) (hw : w_WH n nl) {t : Nat} (ht : t < n) (hC : rC t = 9) {u1 : Nat} (pu1 : u1 < n) (pc1 : rC u1 = 14) {y2 : Int} (ry2 : rI y2) : ∀ (fu : Nat) (x3 : Int) (s0 : SS), rI x3 → l_Ta_put_50 t u1 y2 fu x3 s0 = some out → K ad n nl 0 0 50 [(0, .ref (ad t)), (1, .ref (ad u1)), (2, .int (vI y2)), (3, .int (vI x3))] [] s0 := by
  intro fu
  induction fu with
  | zero =>
    intro x3 s0 rx3 hf
    rw [l_Ta_put_50] at hf
    cases hf
  | succ fu ih =>
    intro x3 s0 rx3 hf
    rw [l_Ta_put_50] at hf
    refine r_rS h (fun hs0 => ?_)
    refine r_iload_n h dX9_put_50 rfl 3 rfl ?_
    refine r_bipush h dX9_put_51 (by decide) ?_
    refine r_icmp_ge (tgt := 75) h dX9_put_53 (by decide) rx3 (rIc rfl) (fun hc1 => ?_) (fun hc1 => ?_)
    · have hf := ite_t hc1 hf
      exact r_ret0 (x := 0) hr dX9_put_75 hf
    · have hf := ite_f hc1 hf
      refine r_aload_n h dX9_put_56 rfl 1 rfl ?_
      refine r_iload_n h dX9_put_57 rfl 2 rfl ?_
      refine r_iconst h dX9_put_58 ?_
      refine r_iadd h dX9_put_59 ?_
      refine r_iload_n h dX9_put_60 rfl 3 rfl ?_
      refine r_iadd h dX9_put_61 ?_
      refine r_aload_n h dX9_put_62 rfl 0 rfl ?_
      have hq2c := rf_9_2 _ hC
      have hq2 := w_ref hw ht hC (by decide) (k := 2) (by decide) hq2c.1
      refine g_X9_15 h dX9_put_63 ht hC hq2.1 ?_
      refine r_iload_n h dX9_put_66 rfl 3 rfl ?_
      obtain ⟨hi3, hf⟩ := oc_some hf
      refine r_iald h dX9_put_67 hq2.2 hq2c.2.1 rx3 (N := 20) (by rw [hq2c.2.2]; rfl) (j := (x3).toNat) rfl hi3 ?_
      obtain ⟨hi4, hf⟩ := oc_some hf
      refine r_iast h dX9_put_68 pu1 pc1 (rI_iw _) rfl (j := (iw ((iw (y2 + 4)) + x3)).toNat) rfl hi4 (hs0.1 _ _) ?_
      refine r_os hf (fun s5 hf => ?_)
      refine r_rS h (fun hs5 => ?_)
      refine r_iinc h [(3, .int (vI (iw (x3 + 1)))), (0, .ref (ad t)), (1, .ref (ad u1)), (2, .int (vI y2))] dX9_put_69 3 rfl (by decide) rfl ?_
      refine r_goto (tgt := 50) h dX9_put_72 (by decide) ?_
      refine r_sub h [1, 2, 3, 0] rfl ?_
      exact ih (iw (x3 + 1)) s5 (rI_iw _) hf
set_option maxRecDepth 20000 in
theorem m_Ta_put {l : Launch} {D : va_G} {cs : Nat → ClassId} {aS aV : Nat} {A : Nat → Prop} {ad : Nat → Nat} {n : Nat} {nl : Nat → Nat → Bool} {out : Int × SS} (hw : w_WH n nl) {t : Nat} (ht : t < n) (hC : rC t = 9) {u1 : Nat} (pu1 : u1 < n) (pc1 : rC u1 = 14) {a2 : Int} (ra2 : rI a2) {s0 : SS} (hs0 : rS s0) (hf : f_Ta_put t u1 a2 s0 = some out) : w_MC l D cs aS aV A yX9_put cX9_put 4 0 rm_Ta_put ad n nl [.ref (ad t), .ref (ad u1), .int (vI a2)] s0 (w_Po ad n nl out) := by
  refine w_MC_of (by decide +kernel) (by decide) hs0 (Nat.le_of_ble_eq_true rfl) (fun K h hr => ?_)
  refine r_lv (lv' := [(0, .ref (ad t)), (1, .ref (ad u1)), (2, .int (vI a2))]) rfl ?_
  unfold f_Ta_put at hf
  refine r_rS h (fun hs0 => ?_)
  refine r_iload_n h dX9_put_0 rfl 2 rfl ?_
  refine r_if_lt (tgt := 13) h dX9_put_1 (by decide) ra2 (fun hc1 => ?_) (fun hc1 => ?_)
  · have hf := ite_t hc1 hf
    exact r_ret0 (x := 0) hr dX9_put_13 hf
  · have hf := ite_f hc1 hf
    refine r_iload_n h dX9_put_4 rfl 2 rfl ?_
    refine r_aload_n h dX9_put_5 rfl 1 rfl ?_
    refine r_alen h dX9_put_6 pu1 pc1 (Or.inr (Or.inl rfl)) rfl ?_
    refine r_bipush h dX9_put_7 (by decide) ?_
    refine r_isub h dX9_put_9 ?_
    refine r_icmp_le (tgt := 14) h dX9_put_10 (by decide) ra2 (rI_iw _) (fun hc2 => ?_) (fun hc2 => ?_)
    · have hf := ite_t hc2 hf
      refine r_aload_n h dX9_put_14 rfl 1 rfl ?_
      refine r_iload_n h dX9_put_15 rfl 2 rfl ?_
      refine r_aload_n h dX9_put_16 rfl 0 rfl ?_
      refine g_X9_28 h dX9_put_17 ht hC ?_
      obtain ⟨hi3, hf⟩ := oc_some hf
      refine r_iast h dX9_put_20 pu1 pc1 ra2 rfl (j := (a2).toNat) rfl hi3 (hs0.1 _ _) ?_
      refine r_os hf (fun s4 hf => ?_)
      refine r_rS h (fun hs4 => ?_)
      refine r_aload_n h dX9_put_21 rfl 1 rfl ?_
      refine r_iload_n h dX9_put_22 rfl 2 rfl ?_
      refine r_iconst h dX9_put_23 ?_
      refine r_iadd h dX9_put_24 ?_
      refine r_aload_n h dX9_put_25 rfl 0 rfl ?_
      refine g_X9_35 h dX9_put_26 ht hC ?_
      obtain ⟨hi5, hf⟩ := oc_some hf
      refine r_iast h dX9_put_29 pu1 pc1 (rI_iw _) rfl (j := (iw (a2 + 1)).toNat) rfl hi5 (hs4.1 _ _) ?_
      refine r_os hf (fun s6 hf => ?_)
      refine r_rS h (fun hs6 => ?_)
      refine r_aload_n h dX9_put_30 rfl 1 rfl ?_
      refine r_iload_n h dX9_put_31 rfl 2 rfl ?_
      refine r_iconst h dX9_put_32 ?_
      refine r_iadd h dX9_put_33 ?_
      refine r_aload_n h dX9_put_34 rfl 0 rfl ?_
      refine g_X9_38 h dX9_put_35 ht hC ?_
      obtain ⟨hi7, hf⟩ := oc_some hf
      refine r_iast h dX9_put_38 pu1 pc1 (rI_iw _) rfl (j := (iw (a2 + 2)).toNat) rfl hi7 (hs6.1 _ _) ?_
      refine r_os hf (fun s8 hf => ?_)
      refine r_rS h (fun hs8 => ?_)
      refine r_aload_n h dX9_put_39 rfl 1 rfl ?_
      refine r_iload_n h dX9_put_40 rfl 2 rfl ?_
      refine r_iconst h dX9_put_41 ?_
      refine r_iadd h dX9_put_42 ?_
      refine r_aload_n h dX9_put_43 rfl 0 rfl ?_
      refine g_X9_48 h dX9_put_44 ht hC ?_
      obtain ⟨hi9, hf⟩ := oc_some hf
      refine r_iast h dX9_put_47 pu1 pc1 (rI_iw _) rfl (j := (iw (a2 + 3)).toNat) rfl hi9 (hs8.1 _ _) ?_
      refine r_os hf (fun s10 hf => ?_)
      refine r_rS h (fun hs10 => ?_)
      refine r_iconst h dX9_put_48 ?_
      refine r_istore_n h [(3, .int (vI 0)), (0, .ref (ad t)), (1, .ref (ad u1)), (2, .int (vI a2))] dX9_put_49 rfl (by decide) rfl ?_
      refine r_sub h [1, 2, 3, 0] rfl ?_
      exact b_Ta_put_50 h hr hw ht hC pu1 pc1 ra2 FU 0 s10 (rIc rfl) hf
    · have hf := ite_f hc2 hf
      exact r_ret0 (x := 0) hr dX9_put_13 hf
set_option maxRecDepth 20000 in
theorem b_Ta_bring_50 {l : Launch} {D : va_G} {cs : Nat → ClassId} {aS aV : Nat} {A : Nat → Prop} {K : KT} {ad : Nat → Nat} {n : Nat} {nl : Nat → Nat → Bool} {out : Int × SS} (h : w_Cl l rm_Ta_bring D cs aS aV A cX9_bring 4 RX9 "bring" K) (hr : w_Rt 0 cX9_bring 0 0 (w_Po ad n nl out) K) (hw : w_WH n nl) {t : Nat} (ht : t < n) (hC : rC t = 9) {u1 : Nat} (pu1 : u1 < n) (pc1 : rC u1 = 14) {y2 : Int} (ry2 : rI y2) : ∀ (fu : Nat) (x3 : Int) (s0 : SS), rI x3 → l_Ta_bring_50 t u1 y2 fu x3 s0 = some out → K ad n nl 0 0 50 [(0, .ref (ad t)), (1, .ref (ad u1)), (2, .int (vI y2)), (3, .int (vI x3))] [] s0 := by
  intro fu
  induction fu with
  | zero =>
    intro x3 s0 rx3 hf
    rw [l_Ta_bring_50] at hf
    cases hf
  | succ fu ih =>
    intro x3 s0 rx3 hf
    rw [l_Ta_bring_50] at hf
    refine r_rS h (fun hs0 => ?_)
    refine r_iload_n h dX9_bring_50 rfl 3 rfl ?_
    refine r_bipush h dX9_bring_51 (by decide) ?_
    refine r_icmp_ge (tgt := 75) h dX9_bring_53 (by decide) rx3 (rIc rfl) (fun hc1 => ?_) (fun hc1 => ?_)
    · have hf := ite_t hc1 hf
      exact r_ret0 (x := 0) hr dX9_bring_75 hf
    · have hf := ite_f hc1 hf
      refine r_aload_n h dX9_bring_56 rfl 0 rfl ?_
      have hq2c := rf_9_2 _ hC
      have hq2 := w_ref hw ht hC (by decide) (k := 2) (by decide) hq2c.1
      refine g_X9_15 h dX9_bring_57 ht hC hq2.1 ?_
      refine r_iload_n h dX9_bring_60 rfl 3 rfl ?_
      refine r_aload_n h dX9_bring_61 rfl 1 rfl ?_
      refine r_iload_n h dX9_bring_62 rfl 2 rfl ?_
      refine r_iconst h dX9_bring_63 ?_
      refine r_iadd h dX9_bring_64 ?_
      refine r_iload_n h dX9_bring_65 rfl 3 rfl ?_
      refine r_iadd h dX9_bring_66 ?_
      obtain ⟨hi3, hf⟩ := oc_some hf
      refine r_iald h dX9_bring_67 pu1 pc1 (rI_iw _) rfl (j := (iw ((iw (y2 + 4)) + x3)).toNat) rfl hi3 ?_
      obtain ⟨hi4, hf⟩ := oc_some hf
      refine r_iast h dX9_bring_68 hq2.2 hq2c.2.1 rx3 (N := 20) (by rw [hq2c.2.2]; rfl) (j := (x3).toNat) rfl hi4 (hs0.1 _ _) ?_
      refine r_os hf (fun s5 hf => ?_)
      refine r_rS h (fun hs5 => ?_)
      refine r_iinc h [(3, .int (vI (iw (x3 + 1)))), (0, .ref (ad t)), (1, .ref (ad u1)), (2, .int (vI y2))] dX9_bring_69 3 rfl (by decide) rfl ?_
      refine r_goto (tgt := 50) h dX9_bring_72 (by decide) ?_
      refine r_sub h [1, 2, 3, 0] rfl ?_
      exact ih (iw (x3 + 1)) s5 (rI_iw _) hf
set_option maxRecDepth 20000 in
theorem m_Ta_bring {l : Launch} {D : va_G} {cs : Nat → ClassId} {aS aV : Nat} {A : Nat → Prop} {ad : Nat → Nat} {n : Nat} {nl : Nat → Nat → Bool} {out : Int × SS} (hw : w_WH n nl) {t : Nat} (ht : t < n) (hC : rC t = 9) {u1 : Nat} (pu1 : u1 < n) (pc1 : rC u1 = 14) {a2 : Int} (ra2 : rI a2) {s0 : SS} (hs0 : rS s0) (hf : f_Ta_bring t u1 a2 s0 = some out) : w_MC l D cs aS aV A yX9_bring cX9_bring 4 0 rm_Ta_bring ad n nl [.ref (ad t), .ref (ad u1), .int (vI a2)] s0 (w_Po ad n nl out) := by
  refine w_MC_of (by decide +kernel) (by decide) hs0 (Nat.le_of_ble_eq_true rfl) (fun K h hr => ?_)
  refine r_lv (lv' := [(0, .ref (ad t)), (1, .ref (ad u1)), (2, .int (vI a2))]) rfl ?_
  unfold f_Ta_bring at hf
  refine r_rS h (fun hs0 => ?_)
  refine r_iload_n h dX9_bring_0 rfl 2 rfl ?_
  refine r_if_lt (tgt := 13) h dX9_bring_1 (by decide) ra2 (fun hc1 => ?_) (fun hc1 => ?_)
  · have hf := ite_t hc1 hf
    exact r_ret0 (x := 0) hr dX9_bring_13 hf
  · have hf := ite_f hc1 hf
    refine r_iload_n h dX9_bring_4 rfl 2 rfl ?_
    refine r_aload_n h dX9_bring_5 rfl 1 rfl ?_
    refine r_alen h dX9_bring_6 pu1 pc1 (Or.inr (Or.inl rfl)) rfl ?_
    refine r_bipush h dX9_bring_7 (by decide) ?_
    refine r_isub h dX9_bring_9 ?_
    refine r_icmp_le (tgt := 14) h dX9_bring_10 (by decide) ra2 (rI_iw _) (fun hc2 => ?_) (fun hc2 => ?_)
    · have hf := ite_t hc2 hf
      refine r_aload_n h dX9_bring_14 rfl 0 rfl ?_
      refine r_aload_n h dX9_bring_15 rfl 1 rfl ?_
      refine r_iload_n h dX9_bring_16 rfl 2 rfl ?_
      obtain ⟨hi3, hf⟩ := oc_some hf
      refine r_iald h dX9_bring_17 pu1 pc1 ra2 rfl (j := (a2).toNat) rfl hi3 ?_
      refine p_X9_28 h dX9_bring_18 ht hC (hs0.1 _ _) ?_
      refine r_os hf (fun s4 hf => ?_)
      refine r_rS h (fun hs4 => ?_)
      refine r_aload_n h dX9_bring_21 rfl 0 rfl ?_
      refine r_aload_n h dX9_bring_22 rfl 1 rfl ?_
      refine r_iload_n h dX9_bring_23 rfl 2 rfl ?_
      refine r_iconst h dX9_bring_24 ?_
      refine r_iadd h dX9_bring_25 ?_
      obtain ⟨hi5, hf⟩ := oc_some hf
      refine r_iald h dX9_bring_26 pu1 pc1 (rI_iw _) rfl (j := (iw (a2 + 1)).toNat) rfl hi5 ?_
      refine p_X9_35 h dX9_bring_27 ht hC (hs4.1 _ _) ?_
      refine r_os hf (fun s6 hf => ?_)
      refine r_rS h (fun hs6 => ?_)
      refine r_aload_n h dX9_bring_30 rfl 0 rfl ?_
      refine r_aload_n h dX9_bring_31 rfl 1 rfl ?_
      refine r_iload_n h dX9_bring_32 rfl 2 rfl ?_
      refine r_iconst h dX9_bring_33 ?_
      refine r_iadd h dX9_bring_34 ?_
      obtain ⟨hi7, hf⟩ := oc_some hf
      refine r_iald h dX9_bring_35 pu1 pc1 (rI_iw _) rfl (j := (iw (a2 + 2)).toNat) rfl hi7 ?_
      refine p_X9_38 h dX9_bring_36 ht hC (hs6.1 _ _) ?_
      refine r_os hf (fun s8 hf => ?_)
      refine r_rS h (fun hs8 => ?_)
      refine r_aload_n h dX9_bring_39 rfl 0 rfl ?_
      refine r_aload_n h dX9_bring_40 rfl 1 rfl ?_
      refine r_iload_n h dX9_bring_41 rfl 2 rfl ?_
      refine r_iconst h dX9_bring_42 ?_
      refine r_iadd h dX9_bring_43 ?_
      obtain ⟨hi9, hf⟩ := oc_some hf
      refine r_iald h dX9_bring_44 pu1 pc1 (rI_iw _) rfl (j := (iw (a2 + 3)).toNat) rfl hi9 ?_
      refine p_X9_48 h dX9_bring_45 ht hC (hs8.1 _ _) ?_
      refine r_os hf (fun s10 hf => ?_)
      refine r_rS h (fun hs10 => ?_)
      refine r_iconst h dX9_bring_48 ?_
      refine r_istore_n h [(3, .int (vI 0)), (0, .ref (ad t)), (1, .ref (ad u1)), (2, .int (vI a2))] dX9_bring_49 rfl (by decide) rfl ?_
      refine r_sub h [1, 2, 3, 0] rfl ?_
      exact b_Ta_bring_50 h hr hw ht hC pu1 pc1 ra2 FU 0 s10 (rIc rfl) hf
    · have hf := ite_f hc2 hf
      exact r_ret0 (x := 0) hr dX9_bring_13 hf
set_option maxRecDepth 20000 in
theorem m_St_begin {l : Launch} {D : va_G} {cs : Nat → ClassId} {aS aV : Nat} {A : Nat → Prop} {ad : Nat → Nat} {n : Nat} {nl : Nat → Nat → Bool} {out : Int × SS} (hw : w_WH n nl) {t : Nat} (ht : t < n) (hC : rC t = 8) {a1 : Int} (ra1 : rI a1) {s0 : SS} (hs0 : rS s0) (hf : f_St_begin t a1 s0 = some out) : w_MC l D cs aS aV A yX8_begin cX8_begin 2 0 rm_St_begin ad n nl [.ref (ad t), .int (vI a1)] s0 (w_Po ad n nl out) := by
  refine w_MC_of (by decide +kernel) (by decide) hs0 (Nat.le_of_ble_eq_true rfl) (fun K h hr => ?_)
  refine r_lv (lv' := [(0, .ref (ad t)), (1, .int (vI a1))]) rfl ?_
  unfold f_St_begin at hf
  refine r_rS h (fun hs0 => ?_)
  refine r_aload_n h dX8_begin_0 rfl 0 rfl ?_
  have hq1c := rf_8_1 _ hC
  have hq1 := w_ref hw ht hC (by decide) (k := 1) (by decide) hq1c.1
  refine g_X8_20 h dX8_begin_1 ht hC hq1.1 ?_
  refine r_iload_n h dX8_begin_4 rfl 1 rfl ?_
  obtain ⟨r2, s2, hq2, hf⟩ := ob_some hf
  refine r_callV0 h [.int (vI a1)] dX8_begin_5 (fun hs => m_Ta_begin hw hq1.2 hq1c.2.1 ra1 hs hq2) ml_X8_24 cv_Ta_begin rfl (co := 9) rfl (by decide) hq1.2 hq1c.2.1 ⟨rfl, rfl⟩ ⟨Nat.le_of_ble_eq_true rfl, Nat.le_of_ble_eq_true rfl⟩ ⟨Nat.le_of_ble_eq_true rfl, Nat.le_of_ble_eq_true rfl⟩ (Nat.le_of_ble_eq_true rfl) rfl (fun hr2 hs2 => ?_)
  refine r_aload_n h dX8_begin_8 rfl 0 rfl ?_
  refine r_iconst h dX8_begin_9 ?_
  refine p_X8_28 h dX8_begin_10 ht hC (rIc rfl) ?_
  refine r_os hf (fun s3 hf => ?_)
  refine r_rS h (fun hs3 => ?_)
  refine r_aload_n h dX8_begin_13 rfl 0 rfl ?_
  refine r_iconst h dX8_begin_14 ?_
  refine p_X8_32 h dX8_begin_15 ht hC (rIc rfl) ?_
  refine r_os hf (fun s4 hf => ?_)
  refine r_rS h (fun hs4 => ?_)
  exact r_ret0 (x := 0) hr dX8_begin_18 hf
set_option maxRecDepth 20000 in
theorem m_St_lengthOf {l : Launch} {D : va_G} {cs : Nat → ClassId} {aS aV : Nat} {A : Nat → Prop} {ad : Nat → Nat} {n : Nat} {nl : Nat → Nat → Bool} {out : Int × SS} (hw : w_WH n nl) {t : Nat} (ht : t < n) (hC : rC t = 8) {a1 : Int} (ra1 : rI a1) {s0 : SS} (hs0 : rS s0) (hf : f_St_lengthOf t a1 s0 = some out) : w_MC l D cs aS aV A yX8_lengthOf cX8_lengthOf 2 1 rm_St_lengthOf ad n nl [.ref (ad t), .int (vI a1)] s0 (w_Po ad n nl out) := by
  refine w_MC_of (by decide +kernel) (by decide) hs0 (Nat.le_of_ble_eq_true rfl) (fun K h hr => ?_)
  refine r_lv (lv' := [(0, .ref (ad t)), (1, .int (vI a1))]) rfl ?_
  unfold f_St_lengthOf at hf
  refine r_rS h (fun hs0 => ?_)
  refine r_aload_n h dX8_lengthOf_0 rfl 0 rfl ?_
  have hq1c := rf_8_0 _ hC
  have hq1 := w_ref hw ht hC (by decide) (k := 0) (by decide) hq1c.1
  refine g_X8_9 h dX8_lengthOf_1 ht hC hq1.1 ?_
  refine r_iload_n h dX8_lengthOf_4 rfl 1 rfl ?_
  obtain ⟨r2, s2, hq2, hf⟩ := ob_some hf
  refine r_callV2 h [.int (vI a1)] dX8_lengthOf_5 (fun hs => m_La_isWay hw hq1.2 hq1c.2.1 ra1 hs hq2) ml_X8_59 cv_La_isWay rfl (co := 4) rfl (by decide) hq1.2 hq1c.2.1 ⟨rfl, rfl⟩ ⟨Nat.le_of_ble_eq_true rfl, Nat.le_of_ble_eq_true rfl⟩ ⟨Nat.le_of_ble_eq_true rfl, Nat.le_of_ble_eq_true rfl⟩ (Nat.le_of_ble_eq_true rfl) rfl (fun hr2 hs2 => ?_)
  refine r_if_eq (tgt := 23) h dX8_lengthOf_8 (by decide) (rI_b hr2) (fun hc3 => ?_) (fun hc3 => ?_)
  · have hf := ite_t hc3 hf
    refine r_iconst h dX8_lengthOf_23 ?_
    exact r_ret1 hr dX8_lengthOf_24 (rIc rfl) hf
  · have hf := ite_f hc3 hf
    refine r_aload_n h dX8_lengthOf_11 rfl 0 rfl ?_
    have hq4c := rf_8_0 _ hC
    have hq4 := w_ref hw ht hC (by decide) (k := 0) (by decide) hq4c.1
    refine g_X8_9 h dX8_lengthOf_12 ht hC hq4.1 ?_
    have hq5c := rf_4_7 _ hq4c.2.1
    have hq5 := w_ref hw hq4.2 hq4c.2.1 (by decide) (k := 7) (by decide) hq5c.1
    refine g_X8_65 h dX8_lengthOf_15 hq4.2 hq4c.2.1 hq5.1 ?_
    refine r_st (st0 := [.ref (ad 8)]) rfl ?_
    refine r_iload_n h dX8_lengthOf_18 rfl 1 rfl ?_
    obtain ⟨hi6, hf⟩ := oc_some hf
    refine r_iald h dX8_lengthOf_19 hq5.2 rC_8 ra1 (N := 14) (by rw [rN_8]; rfl) (j := (a1).toNat) rfl hi6 ?_
    refine r_goto (tgt := 24) h dX8_lengthOf_20 (by decide) ?_
    exact r_ret1 hr dX8_lengthOf_24 (hs2.1 _ _) hf
set_option maxRecDepth 20000 in
theorem b_St_goOn_44 {l : Launch} {D : va_G} {cs : Nat → ClassId} {aS aV : Nat} {A : Nat → Prop} {K : KT} {ad : Nat → Nat} {n : Nat} {nl : Nat → Nat → Bool} {out : Int × SS} (h : w_Cl l rm_St_goOn D cs aS aV A cX8_goOn 5 RX8 "goOn" K) (hr : w_Rt 2 cX8_goOn 0 0 (w_Po ad n nl out) K) (hw : w_WH n nl) {t : Nat} (ht : t < n) (hC : rC t = 8) {u1 : Nat} (pu1 : u1 < n) (pc1 : rC u1 = 14) {u2 : Nat} (pu2 : u2 < n) (pc2 : rC u2 = 7) {y3 : Int} (ry3 : rI y3) {y4 : Int} (ry4 : rI y4) (self0 : SS → OO) (hself0 : ∀ (τ : SS), self0 τ = some out → K ad n nl 0 0 0 [(0, .ref (ad t)), (1, .ref (ad u1)), (2, .ref (ad u2))] [] τ) : ∀ (fu : Nat) (s0 : SS), l_St_goOn_44 t u1 u2 self0 y3 y4 fu s0 = some out → K ad n nl 0 0 44 [(0, .ref (ad t)), (1, .ref (ad u1)), (2, .ref (ad u2)), (3, .int (vI y3)), (4, .int (vI y4))] [] s0 := by
  intro fu
  induction fu with
  | zero =>
    intro s0 hf
    rw [l_St_goOn_44] at hf
    cases hf
  | succ fu ih =>
    intro s0 hf
    rw [l_St_goOn_44] at hf
    refine r_rS h (fun hs0 => ?_)
    refine r_aload_n h dX8_goOn_44 rfl 0 rfl ?_
    refine g_X8_32 h dX8_goOn_45 ht hC ?_
    refine r_iload h dX8_goOn_48 4 rfl ?_
    refine r_icmp_ge (tgt := 97) h dX8_goOn_50 (by decide) (hs0.1 _ _) ry4 (fun hc1 => ?_) (fun hc1 => ?_)
    · have hf := ite_t hc1 hf
      refine r_aload_n h dX8_goOn_97 rfl 0 rfl ?_
      refine r_dup h dX8_goOn_98 rfl ?_
      refine g_X8_28 h dX8_goOn_99 ht hC ?_
      refine r_iconst h dX8_goOn_102 ?_
      refine r_iadd h dX8_goOn_103 ?_
      refine p_X8_28 h dX8_goOn_104 ht hC (rI_iw _) ?_
      refine r_os hf (fun s2 hf => ?_)
      refine r_rS h (fun hs2 => ?_)
      refine r_aload_n h dX8_goOn_107 rfl 0 rfl ?_
      refine r_iconst h dX8_goOn_108 ?_
      refine p_X8_32 h dX8_goOn_109 ht hC (rIc rfl) ?_
      refine r_os hf (fun s3 hf => ?_)
      refine r_rS h (fun hs3 => ?_)
      refine r_goto (tgt := 0) h dX8_goOn_112 (by decide) ?_
      refine r_sub h [0, 1, 2] rfl ?_
      exact hself0 s3 hf
    · have hf := ite_f hc1 hf
      refine r_aload_n h dX8_goOn_53 rfl 0 rfl ?_
      refine r_dup h dX8_goOn_54 rfl ?_
      refine g_X8_32 h dX8_goOn_55 ht hC ?_
      refine r_iconst h dX8_goOn_58 ?_
      refine r_iadd h dX8_goOn_59 ?_
      refine p_X8_32 h dX8_goOn_60 ht hC (rI_iw _) ?_
      refine r_os hf (fun s4 hf => ?_)
      refine r_rS h (fun hs4 => ?_)
      refine r_aload_n h dX8_goOn_63 rfl 0 rfl ?_
      have hq5c := rf_8_1 _ hC
      have hq5 := w_ref hw ht hC (by decide) (k := 1) (by decide) hq5c.1
      refine g_X8_20 h dX8_goOn_64 ht hC hq5.1 ?_
      refine r_aload_n h dX8_goOn_67 rfl 1 rfl ?_
      refine r_iload_n h dX8_goOn_68 rfl 3 rfl ?_
      refine r_aload_n h dX8_goOn_69 rfl 0 rfl ?_
      refine g_X8_32 h dX8_goOn_70 ht hC ?_
      refine r_aload_n h dX8_goOn_73 rfl 2 rfl ?_
      have hq6c := rf_7_1 _ pc2
      have hq6 := w_ref hw pu2 pc2 (by decide) (k := 1) (by decide) hq6c.1
      refine g_X8_48 h dX8_goOn_74 pu2 pc2 hq6.1 ?_
      refine r_aload_n h dX8_goOn_77 rfl 0 rfl ?_
      refine g_X8_28 h dX8_goOn_78 ht hC ?_
      obtain ⟨hi7, hf⟩ := oc_some hf
      refine r_iald h dX8_goOn_81 hq6.2 hq6c.2.1 (hs4.1 _ _) (N := 12) (by rw [hq6c.2.2]; rfl) (j := (gi s4 t 2).toNat) rfl hi7 ?_
      obtain ⟨r8, s8, hq8, hf⟩ := ob_some hf
      refine r_callV0 h [.ref (ad u1), .int (vI y3), .int (vI (gi s4 t 3)), .int (vI (gi s4 (u2 + 2) ((gi s4 t 2).toNat)))] dX8_goOn_82 (fun hs => m_Ta_sayOnWay hw hq5.2 hq5c.2.1 pu1 pc1 ry3 (hs4.1 _ _) (hs4.1 _ _) hs hq8) ml_X8_51 cv_Ta_sayOnWay rfl (co := 9) rfl (by decide) hq5.2 hq5c.2.1 ⟨rfl, rfl⟩ ⟨Nat.le_of_ble_eq_true rfl, Nat.le_of_ble_eq_true rfl⟩ ⟨Nat.le_of_ble_eq_true rfl, Nat.le_of_ble_eq_true rfl⟩ (Nat.le_of_ble_eq_true rfl) rfl (fun hr8 hs8 => ?_)
      refine r_aload_n h dX8_goOn_85 rfl 0 rfl ?_
      have hq9c := rf_8_1 _ hC
      have hq9 := w_ref hw ht hC (by decide) (k := 1) (by decide) hq9c.1
      refine g_X8_20 h dX8_goOn_86 ht hC hq9.1 ?_
      obtain ⟨r10, s10, hq10, hf⟩ := ob_some hf
      refine r_callV2 h [] dX8_goOn_89 (fun hs => m_Ta_isOver hw hq9.2 hq9c.2.1 hs hq10) ml_X8_55 cv_Ta_isOver rfl (co := 9) rfl (by decide) hq9.2 hq9c.2.1 ⟨rfl, rfl⟩ ⟨Nat.le_of_ble_eq_true rfl, Nat.le_of_ble_eq_true rfl⟩ ⟨Nat.le_of_ble_eq_true rfl, Nat.le_of_ble_eq_true rfl⟩ (Nat.le_of_ble_eq_true rfl) rfl (fun hr10 hs10 => ?_)
      refine r_if_eq (tgt := 44) h dX8_goOn_92 (by decide) (rI_b hr10) (fun hc11 => ?_) (fun hc11 => ?_)
      · have hf := ite_t hc11 hf
        exact ih s10 hf
      · have hf := ite_f hc11 hf
        refine r_iconst h dX8_goOn_95 ?_
        exact r_ret2 hr dX8_goOn_96 (Or.inr rfl) hf
set_option maxRecDepth 20000 in
theorem b_St_goOn_0 {l : Launch} {D : va_G} {cs : Nat → ClassId} {aS aV : Nat} {A : Nat → Prop} {K : KT} {ad : Nat → Nat} {n : Nat} {nl : Nat → Nat → Bool} {out : Int × SS} (h : w_Cl l rm_St_goOn D cs aS aV A cX8_goOn 5 RX8 "goOn" K) (hr : w_Rt 2 cX8_goOn 0 0 (w_Po ad n nl out) K) (hw : w_WH n nl) {t : Nat} (ht : t < n) (hC : rC t = 8) {u1 : Nat} (pu1 : u1 < n) (pc1 : rC u1 = 14) {u2 : Nat} (pu2 : u2 < n) (pc2 : rC u2 = 7) : ∀ (fu : Nat) (s0 : SS), l_St_goOn_0 t u1 u2 fu s0 = some out → K ad n nl 0 0 0 [(0, .ref (ad t)), (1, .ref (ad u1)), (2, .ref (ad u2))] [] s0 := by
  intro fu
  induction fu with
  | zero =>
    intro s0 hf
    rw [l_St_goOn_0] at hf
    cases hf
  | succ fu ih =>
    intro s0 hf
    rw [l_St_goOn_0] at hf
    refine r_rS h (fun hs0 => ?_)
    refine r_aload_n h dX8_goOn_0 rfl 0 rfl ?_
    refine g_X8_28 h dX8_goOn_1 ht hC ?_
    refine r_if_lt (tgt := 115) h dX8_goOn_4 (by decide) (hs0.1 _ _) (fun hc1 => ?_) (fun hc1 => ?_)
    · have hf := ite_t hc1 hf
      refine r_iconst h dX8_goOn_115 ?_
      exact r_ret2 hr dX8_goOn_116 (Or.inl rfl) hf
    · have hf := ite_f hc1 hf
      refine r_aload_n h dX8_goOn_7 rfl 0 rfl ?_
      refine g_X8_28 h dX8_goOn_8 ht hC ?_
      refine r_aload_n h dX8_goOn_11 rfl 2 rfl ?_
      refine g_X8_35 h dX8_goOn_12 pu2 pc2 ?_
      refine r_icmp_ge (tgt := 115) h dX8_goOn_15 (by decide) (hs0.1 _ _) (hs0.1 _ _) (fun hc2 => ?_) (fun hc2 => ?_)
      · have hf := ite_t hc2 hf
        refine r_iconst h dX8_goOn_115 ?_
        exact r_ret2 hr dX8_goOn_116 (Or.inl rfl) hf
      · have hf := ite_f hc2 hf
        refine r_aload_n h dX8_goOn_18 rfl 0 rfl ?_
        refine g_X8_28 h dX8_goOn_19 ht hC ?_
        refine r_bipush h dX8_goOn_22 (by decide) ?_
        refine r_icmp_ge (tgt := 115) h dX8_goOn_24 (by decide) (hs0.1 _ _) (rIc rfl) (fun hc3 => ?_) (fun hc3 => ?_)
        · have hf := ite_t hc3 hf
          refine r_iconst h dX8_goOn_115 ?_
          exact r_ret2 hr dX8_goOn_116 (Or.inl rfl) hf
        · have hf := ite_f hc3 hf
          refine r_aload_n h dX8_goOn_27 rfl 2 rfl ?_
          have hq4c := rf_7_0 _ pc2
          have hq4 := w_ref hw pu2 pc2 (by decide) (k := 0) (by decide) hq4c.1
          refine g_X8_40 h dX8_goOn_28 pu2 pc2 hq4.1 ?_
          refine r_aload_n h dX8_goOn_31 rfl 0 rfl ?_
          refine g_X8_28 h dX8_goOn_32 ht hC ?_
          obtain ⟨hi5, hf⟩ := oc_some hf
          refine r_iald h dX8_goOn_35 hq4.2 hq4c.2.1 (hs0.1 _ _) (N := 12) (by rw [hq4c.2.2]; rfl) (j := (gi s0 t 2).toNat) rfl hi5 ?_
          refine r_ol hf (hs0.1 _ _) (fun x6_ rx6_ hf => ?_)
          refine r_istore_n h [(3, .int (vI x6_)), (0, .ref (ad t)), (1, .ref (ad u1)), (2, .ref (ad u2))] dX8_goOn_36 rfl (by decide) rfl ?_
          refine r_aload_n h dX8_goOn_37 rfl 1 rfl ?_
          refine r_iload_n h dX8_goOn_38 rfl 0 rfl ?_
          obtain ⟨r7, s7, hq7, hf⟩ := ob_some hf
          refine r_callV1 h [.int (vI x6_)] dX8_goOn_39 (fun hs => m_St_lengthOf hw ht hC rx6_ hs hq7) ml_X8_44 cv_St_lengthOf rfl (co := 8) rfl (by decide) ht hC ⟨rfl, rfl⟩ ⟨Nat.le_of_ble_eq_true rfl, Nat.le_of_ble_eq_true rfl⟩ ⟨Nat.le_of_ble_eq_true rfl, Nat.le_of_ble_eq_true rfl⟩ (Nat.le_of_ble_eq_true rfl) rfl (fun hr7 hs7 => ?_)
          refine r_istore h [(4, .int (vI r7)), (3, .int (vI x6_)), (0, .ref (ad t)), (1, .ref (ad u1)), (2, .ref (ad u2))] dX8_goOn_42 (by decide) rfl ?_
          refine r_sub h [2, 3, 4, 1, 0] rfl ?_
          exact b_St_goOn_44 h hr hw ht hC pu1 pc1 pu2 pc2 rx6_ hr7 (l_St_goOn_0 t u1 u2 fu) ih FU s7 hf
set_option maxRecDepth 20000 in
theorem m_St_goOn {l : Launch} {D : va_G} {cs : Nat → ClassId} {aS aV : Nat} {A : Nat → Prop} {ad : Nat → Nat} {n : Nat} {nl : Nat → Nat → Bool} {out : Int × SS} (hw : w_WH n nl) {t : Nat} (ht : t < n) (hC : rC t = 8) {u1 : Nat} (pu1 : u1 < n) (pc1 : rC u1 = 14) {u2 : Nat} (pu2 : u2 < n) (pc2 : rC u2 = 7) {s0 : SS} (hs0 : rS s0) (hf : f_St_goOn t u1 u2 s0 = some out) : w_MC l D cs aS aV A yX8_goOn cX8_goOn 5 2 rm_St_goOn ad n nl [.ref (ad t), .ref (ad u1), .ref (ad u2)] s0 (w_Po ad n nl out) := by
  refine w_MC_of (by decide +kernel) (by decide) hs0 (Nat.le_of_ble_eq_true rfl) (fun K h hr => ?_)
  refine r_lv (lv' := [(0, .ref (ad t)), (1, .ref (ad u1)), (2, .ref (ad u2))]) rfl ?_
  unfold f_St_goOn at hf
  exact b_St_goOn_0 h hr hw ht hC pu1 pc1 pu2 pc2 FU s0 hf
set_option maxRecDepth 20000 in
theorem m_St_isAtEnd {l : Launch} {D : va_G} {cs : Nat → ClassId} {aS aV : Nat} {A : Nat → Prop} {ad : Nat → Nat} {n : Nat} {nl : Nat → Nat → Bool} {out : Int × SS} (hw : w_WH n nl) {t : Nat} (ht : t < n) (hC : rC t = 8) {u1 : Nat} (pu1 : u1 < n) (pc1 : rC u1 = 7) {s0 : SS} (hs0 : rS s0) (hf : f_St_isAtEnd t u1 s0 = some out) : w_MC l D cs aS aV A yX8_isAtEnd cX8_isAtEnd 3 2 rm_St_isAtEnd ad n nl [.ref (ad t), .ref (ad u1)] s0 (w_Po ad n nl out) := by
  refine w_MC_of (by decide +kernel) (by decide) hs0 (Nat.le_of_ble_eq_true rfl) (fun K h hr => ?_)
  refine r_lv (lv' := [(0, .ref (ad t)), (1, .ref (ad u1))]) rfl ?_
  unfold f_St_isAtEnd at hf
  refine r_rS h (fun hs0 => ?_)
  refine r_aload_n h dX8_isAtEnd_0 rfl 1 rfl ?_
  refine g_X8_35 h dX8_isAtEnd_1 pu1 pc1 ?_
  refine r_iconst h dX8_isAtEnd_4 ?_
  refine r_isub h dX8_isAtEnd_5 ?_
  refine r_ol hf (rI_iw _) (fun x1_ rx1_ hf => ?_)
  refine r_istore_n h [(2, .int (vI x1_)), (0, .ref (ad t)), (1, .ref (ad u1))] dX8_isAtEnd_6 rfl (by decide) rfl ?_
  refine r_aload_n h dX8_isAtEnd_7 rfl 1 rfl ?_
  refine g_X8_28 h dX8_isAtEnd_8 ht hC ?_
  refine r_iload_n h dX8_isAtEnd_11 rfl 0 rfl ?_
  refine r_icmp_gt (tgt := 25) h dX8_isAtEnd_12 (by decide) (hs0.1 _ _) rx1_ (fun hc2 => ?_) (fun hc2 => ?_)
  · have hf := ite_t hc2 hf
    refine r_iconst h dX8_isAtEnd_25 ?_
    exact r_ret2 hr dX8_isAtEnd_26 (Or.inr rfl) hf
  · have hf := ite_f hc2 hf
    refine r_iload_n h dX8_isAtEnd_15 rfl 0 rfl ?_
    refine r_if_lt (tgt := 25) h dX8_isAtEnd_16 (by decide) rx1_ (fun hc3 => ?_) (fun hc3 => ?_)
    · have hf := ite_t hc3 hf
      refine r_iconst h dX8_isAtEnd_25 ?_
      exact r_ret2 hr dX8_isAtEnd_26 (Or.inr rfl) hf
    · have hf := ite_f hc3 hf
      refine r_iload_n h dX8_isAtEnd_19 rfl 0 rfl ?_
      refine r_bipush h dX8_isAtEnd_20 (by decide) ?_
      refine r_icmp_lt (tgt := 27) h dX8_isAtEnd_22 (by decide) rx1_ (rIc rfl) (fun hc4 => ?_) (fun hc4 => ?_)
      · have hf := ite_t hc4 hf
        refine r_aload_n h dX8_isAtEnd_27 rfl 1 rfl ?_
        refine g_X8_28 h dX8_isAtEnd_28 ht hC ?_
        refine r_iload_n h dX8_isAtEnd_31 rfl 0 rfl ?_
        refine r_icmp_ne (tgt := 56) h dX8_isAtEnd_32 (by decide) (hs0.1 _ _) rx1_ (fun hc5 => ?_) (fun hc5 => ?_)
        · have hf := ite_f hc5 hf
          refine r_iconst h dX8_isAtEnd_56 ?_
          exact r_ret2 hr dX8_isAtEnd_57 (Or.inl rfl) hf
        · have hf := ite_nf hc5 hf
          refine r_aload_n h dX8_isAtEnd_35 rfl 1 rfl ?_
          refine g_X8_32 h dX8_isAtEnd_36 ht hC ?_
          refine r_aload_n h dX8_isAtEnd_39 rfl 1 rfl ?_
          refine r_aload_n h dX8_isAtEnd_40 rfl 2 rfl ?_
          have hq6c := rf_7_0 _ pc1
          have hq6 := w_ref hw pu1 pc1 (by decide) (k := 0) (by decide) hq6c.1
          refine g_X8_40 h dX8_isAtEnd_41 pu1 pc1 hq6.1 ?_
          refine r_iload_n h dX8_isAtEnd_44 rfl 0 rfl ?_
          obtain ⟨hi7, hf⟩ := oc_some hf
          refine r_iald h dX8_isAtEnd_45 hq6.2 hq6c.2.1 rx1_ (N := 12) (by rw [hq6c.2.2]; rfl) (j := (x1_).toNat) rfl hi7 ?_
          obtain ⟨r8, s8, hq8, hf⟩ := ob_some hf
          refine r_callV1 h [.int (vI (gi s0 (u1 + 1) ((x1_).toNat)))] dX8_isAtEnd_46 (fun hs => m_St_lengthOf hw ht hC (hs0.1 _ _) hs hq8) ml_X8_44 cv_St_lengthOf rfl (co := 8) rfl (by decide) ht hC ⟨rfl, rfl⟩ ⟨Nat.le_of_ble_eq_true rfl, Nat.le_of_ble_eq_true rfl⟩ ⟨Nat.le_of_ble_eq_true rfl, Nat.le_of_ble_eq_true rfl⟩ (Nat.le_of_ble_eq_true rfl) rfl (fun hr8 hs8 => ?_)
          refine r_icmp_lt (tgt := 56) h dX8_isAtEnd_49 (by decide) (hs0.1 _ _) hr8 (fun hc9 => ?_) (fun hc9 => ?_)
          · have hf := ite_t hc9 hf
            refine r_iconst h dX8_isAtEnd_56 ?_
            exact r_ret2 hr dX8_isAtEnd_57 (Or.inl rfl) hf
          · have hf := ite_f hc9 hf
            refine r_iconst h dX8_isAtEnd_52 ?_
            refine r_goto (tgt := 57) h dX8_isAtEnd_53 (by decide) ?_
            exact r_ret2 hr dX8_isAtEnd_57 (Or.inr rfl) hf
      · have hf := ite_f hc4 hf
        refine r_iconst h dX8_isAtEnd_25 ?_
        exact r_ret2 hr dX8_isAtEnd_26 (Or.inr rfl) hf
