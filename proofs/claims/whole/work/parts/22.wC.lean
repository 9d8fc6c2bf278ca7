noncomputable def f_Lo_bitCount_95d88 (a1 : Int) (s0 : SS) : OO :=
  ol (jw (a1 - (yand (yushr a1 1) 6148914691236517205))) fun x1_ =>
  ol (jw ((yand x1_ 3689348814741910323) + (yand (yushr x1_ 2) 3689348814741910323))) fun x2_ =>
  ol (yand (jw (x2_ + (yushr x2_ 4))) 1085102592571150095) fun x3_ =>
  ol (jw (x3_ + (yushr x3_ 8))) fun x4_ =>
  ol (jw (x4_ + (yushr x4_ 16))) fun x5_ =>
  ol (jw (x5_ + (yushr x5_ 32))) fun x6_ =>
  some (zand (iw x6_) 127, s0)
noncomputable def f_Rp_forget  (s0 : SS) : OO :=
  os (si s0 79 3 0) fun s1 =>
  some (0, s1)
noncomputable def f_Rp_toldLength (a1 : Int) (s0 : SS) : OO :=
  ob (f_Ta_begin 83 a1 s0) fun r2 s2 =>
  ob (f_Ta_talkOpenly 83 11 60 s2) fun r6 s6 =>
  if r6 = (-1) then (
    some (61, s6))
  else (
    some (r6, s6))
noncomputable def j_Rp_roadsBy_35  (x1 : Int) (x2 : Int) (z0 : Int) (s0 : SS) : OO :=
  if x1 = 2 then (
    some (x2, s0))
  else (
    if x1 = 1 then (
      some (z0, s0))
    else (
      some (yand (yand 1152921504606846975 (yxor x2 (-1))) (yxor z0 (-1)), s0)))
noncomputable def j_Rp_roadsBy_19  (x0 : Int) (x1 : Int) (z0 : Int) (s0 : SS) : OO :=
  if x0 ≤ 60 then (
    j_Rp_roadsBy_35 x1 z0 (yshl 1 (iw (x0 - 1))) s0)
  else (
    j_Rp_roadsBy_35 x1 z0 0 s0)
noncomputable def f_Rp_roadsBy (a1 : Int) (a2 : Int) (s0 : SS) : OO :=
  if a1 ≤ 60 then (
    j_Rp_roadsBy_19 a1 a2 (jw ((yshl 1 (iw (a1 - 1))) - 1)) s0)
  else (
    j_Rp_roadsBy_19 a1 a2 1152921504606846975 s0)
noncomputable def f_Rp_tell (a1 : Int) (a2 : Int) (s0 : SS) : OO :=
  if (gi s0 79 3) < 0 then (
    some ((-1), s0))
  else (
    if (gi s0 79 3) < 30 then (
      oc (0 ≤ gi s0 79 3 ∧ gi s0 79 3 < 30) <|
      os (si s0 80 ((gi s0 79 3).toNat) (gi s0 79 2)) fun s5 =>
      oc (0 ≤ gi s5 79 3 ∧ gi s5 79 3 < 30) <|
      os (si s5 81 ((gi s5 79 3).toNat) (-1)) fun s8 =>
      ob (f_Rp_toldLength a1 s8) fun r10 s10 =>
      ob (f_Rp_roadsBy r10 a2 s10) fun r11 s11 =>
      oc (0 ≤ gi s8 79 3 ∧ gi s8 79 3 < 30) <|
      os (sj s11 82 ((gi s8 79 3).toNat) r11) fun s13 =>
      os (si s13 79 3 (iw ((gi s13 79 3) + 1))) fun s14 =>
      some (iw ((gi s14 79 3) - 1), s14))
    else (
      some ((-1), s0)))
noncomputable def f_Rp_takeBack (a1 : Int) (s0 : SS) : OO :=
  if a1 < 0 then (
    some (0, s0))
  else (
    if (gi s0 79 3) ≤ a1 then (
      some (0, s0))
    else (
      if 30 ≤ a1 then (
        some (0, s0))
      else (
        oc (0 ≤ a1 ∧ a1 < 30) <|
        if (gi s0 81 ((a1).toNat)) = (-1) then (
          oc (0 ≤ a1 ∧ a1 < 30) <|
          os (si s0 81 ((a1).toNat) (gi s0 79 2)) fun s9 =>
          some (1, s9))
        else (
          some (0, s0)))))
noncomputable def f_Rp_passTime (a1 : Int) (s0 : SS) : OO :=
  if a1 < 0 then (
    some ((-1), s0))
  else (
    if 1000 < a1 then (
      some ((-1), s0))
    else (
      if (iw ((gi s0 79 2) + a1)) ≤ 100000 then (
        os (si s0 79 2 (iw ((gi s0 79 2) + a1))) fun s4 =>
        some (gi s4 79 2, s4))
      else (
        some ((-1), s0))))
noncomputable def j_Rp_roadsKnownAt_50 (self7 : Int → Int → SS → OO) (x1 : Int) (x2 : Int) (x4 : Int) (z0 : Int) (s0 : SS) : OO :=
  oc (0 ≤ x4 ∧ x4 < 30) <|
  if x1 < (gi s0 80 ((x4).toNat)) then (
    self7 x2 (iw (x4 + 1)) s0)
  else (
    if z0 = 0 then (
      oc (0 ≤ x4 ∧ x4 < 30) <|
      ol (yand x2 (gj s0 82 ((x4).toNat))) fun x7_ =>
      self7 x7_ (iw (x4 + 1)) s0)
    else (
      self7 x2 (iw (x4 + 1)) s0))
noncomputable def j_Rp_roadsKnownAt_49 (self7 : Int → Int → SS → OO) (x1 : Int) (x2 : Int) (x4 : Int) (s0 : SS) : OO :=
  j_Rp_roadsKnownAt_50 self7 x1 x2 x4 0 s0
noncomputable def l_Rp_roadsKnownAt_7 (y1 : Int) : Nat → Int → Int → SS → OO
  | 0, _, _, _ => none
  | fu + 1, x2, x4, s0 =>
    if (gi s0 79 3) ≤ x4 then (
      some (x2, s0))
    else (
      if 30 ≤ x4 then (
        some (x2, s0))
      else (
        oc (0 ≤ x4 ∧ x4 < 30) <|
        if (gi s0 81 ((x4).toNat)) = (-1) then (
          j_Rp_roadsKnownAt_49 (l_Rp_roadsKnownAt_7 y1 fu) y1 x2 x4 s0)
        else (
          oc (0 ≤ x4 ∧ x4 < 30) <|
          if y1 < (gi s0 81 ((x4).toNat)) then (
            j_Rp_roadsKnownAt_49 (l_Rp_roadsKnownAt_7 y1 fu) y1 x2 x4 s0)
          else (
            j_Rp_roadsKnownAt_50 (l_Rp_roadsKnownAt_7 y1 fu) y1 x2 x4 1 s0))))
noncomputable def f_Rp_roadsKnownAt (a1 : Int) (s0 : SS) : OO :=
  l_Rp_roadsKnownAt_7 a1 FU 1152921504606846975 0 s0
noncomputable def l_Rp_mostLeft_13 (y2 : Int) (y4 : Int) : Nat → Int → Int → SS → OO
  | 0, _, _, _ => none
  | fu + 1, x5, x6, s0 =>
    if 2 < x6 then (
      some (x5, s0))
    else (
      ob (f_Rp_roadsBy y4 x6 s0) fun r2 s2 =>
      ob (f_Lo_bitCount_95d88 (yand y2 r2) s2) fun r3 s3 =>
      ol (zmax x5 r3) fun x4_ =>
      (l_Rp_mostLeft_13 y2 y4 fu) x4_ (iw (x6 + 1)) s3)
noncomputable def f_Rp_mostLeft (a1 : Int) (a2 : Int) (s0 : SS) : OO :=
  ob (f_Rp_toldLength a1 s0) fun r1 s1 =>
  l_Rp_mostLeft_13 a2 r1 FU 0 0 s1
noncomputable def j_Rp_findQuestion_65 (self33 : Int → Int → Int → SS → OO) (x1 : Int) (x3 : Int) (x5 : Int) (x6 : Int) (x7 : Int) (z0 : Int) (s0 : SS) : OO :=
  if x6 ≤ z0 then (
    self33 x5 x6 (iw (x7 + 1)) s0)
  else (
    self33 x7 z0 (iw (x7 + 1)) s0)
noncomputable def l_Rp_findQuestion_33 (y1 : Int) (y3 : Int) : Nat → Int → Int → Int → SS → OO
  | 0, _, _, _, _ => none
  | fu + 1, x5, x6, x7, s0 =>
    if 600 ≤ x7 then (
      if x5 = (-1) then (
        some ((-1), s0))
      else (
        if y1 = 0 then (
          some (x5, s0))
        else (
          some (x6, s0))))
    else (
      ob (f_La_isCouple 2 x7 s0) fun r5 s5 =>
      if r5 = 0 then (
        j_Rp_findQuestion_65 (l_Rp_findQuestion_33 y1 y3 fu) y1 y3 x5 x6 x7 x6 s5)
      else (
        ob (f_Rp_mostLeft x7 y3 s5) fun r7 s7 =>
        j_Rp_findQuestion_65 (l_Rp_findQuestion_33 y1 y3 fu) y1 y3 x5 x6 x7 r7 s7))
noncomputable def f_Rp_findQuestion (a1 : Int) (a2 : Int) (s0 : SS) : OO :=
  ob (f_Rp_roadsKnownAt a2 s0) fun r1 s1 =>
  if a1 < 0 then (
    some ((-1), s1))
  else (
    if 1 < a1 then (
      some ((-1), s1))
    else (
      if (ycmp r1 0) = 0 then (
        some ((-1), s1))
      else (
        l_Rp_findQuestion_33 a1 r1 FU (-1) 61 0 s1)))
noncomputable def f_Ea_slot  (s0 : SS) : OO :=
  some (iw ((Int.tmod (iw ((gi s0 46 9) + (gi s0 46 10))) 41) * 41), s0)
noncomputable def j_Ea_put_73 (u1 : Nat) (x3 : Int) (z1 : Int) (z2 : Int) (s0 : SS) : OO :=
  oc (0 ≤ z1 ∧ z1 < ((rN u1 : Nat) : Int)) <|
  os (si s0 u1 ((z1).toNat) z2) fun s2 =>
  oc (0 ≤ iw (x3 + 2) ∧ iw (x3 + 2) < ((rN u1 : Nat) : Int)) <|
  os (si s2 u1 ((iw (x3 + 2)).toNat) (gi s2 46 5)) fun s4 =>
  oc (0 ≤ iw (x3 + 3) ∧ iw (x3 + 3) < ((rN u1 : Nat) : Int)) <|
  os (si s4 u1 ((iw (x3 + 3)).toNat) (gi s4 46 6)) fun s6 =>
  oc (0 ≤ iw (x3 + 4) ∧ iw (x3 + 4) < ((rN u1 : Nat) : Int)) <|
  os (si s6 u1 ((iw (x3 + 4)).toNat) (gi s6 46 7)) fun s8 =>
  ob (f_Ta_put 51 u1 (iw (x3 + 5)) s8) fun r10 s10 =>
  some (0, s10)
noncomputable def l_Ea_put_16 (u1 : Nat) (y2 : Int) : Nat → Int → SS → OO
  | 0, _, _ => none
  | fu + 1, x3, s0 =>
    if 12 ≤ x3 then (
      ol (iw (y2 + 12)) fun x4_ =>
      oc (0 ≤ x4_ ∧ x4_ < ((rN u1 : Nat) : Int)) <|
      os (si s0 u1 ((x4_).toNat) (gi s0 46 2)) fun s6 =>
      if (gi s6 46 4) = 0 then (
        j_Ea_put_73 u1 x4_ (iw (x4_ + 1)) 0 s6)
      else (
        j_Ea_put_73 u1 x4_ (iw (x4_ + 1)) 1 s6))
    else (
      oc (0 ≤ x3 ∧ x3 < 12) <|
      oc (0 ≤ iw (y2 + x3) ∧ iw (y2 + x3) < ((rN u1 : Nat) : Int)) <|
      os (si s0 u1 ((iw (y2 + x3)).toNat) (gi s0 47 ((x3).toNat))) fun s11 =>
      (l_Ea_put_16 u1 y2 fu) (iw (x3 + 1)) s11)
noncomputable def f_Ea_put (u1 : Nat) (a2 : Int) (s0 : SS) : OO :=
  if a2 < 0 then (
    some (0, s0))
  else (
    if a2 ≤ (iw (((rN u1 : Nat) : Int) - 41)) then (
      l_Ea_put_16 u1 a2 FU 0 s0)
    else (
      some (0, s0)))
noncomputable def f_Ea_forgetActs  (s0 : SS) : OO :=
  os (si s0 46 10 0) fun s1 =>
  os (si s1 46 11 0) fun s2 =>
  ob (f_Ea_slot s2) fun r4 s4 =>
  ob (f_Ea_put 48 r4 s4) fun r5 s5 =>
  some (0, s5)
noncomputable def j_Ea_beginAnew_42 (self2 : Int → SS → OO) (x1 : Int) (z1 : Int) (z2 : Int) (s0 : SS) : OO :=
  oc (0 ≤ z1 ∧ z1 < 12) <|
  os (si s0 47 ((z1).toNat) z2) fun s2 =>
  self2 (iw (x1 + 1)) s2
noncomputable def l_Ea_beginAnew_82  : Nat → Int → SS → OO
  | 0, _, _ => none
  | fu + 1, x1, s0 =>
    if 3 ≤ x1 then (
      ob (f_Ea_forgetActs s0) fun r2 s2 =>
      some (0, s2))
    else (
      oc (0 ≤ x1 ∧ x1 < 3) <|
      os (si s0 50 ((x1).toNat) 0) fun s5 =>
      (l_Ea_beginAnew_82 fu) (iw (x1 + 1)) s5)
noncomputable def l_Ea_beginAnew_2  : Nat → Int → SS → OO
  | 0, _, _ => none
  | fu + 1, x1, s0 =>
    if 12 ≤ x1 then (
      os (si s0 46 2 (gi s0 2 17)) fun s4 =>
      os (si s4 46 4 0) fun s5 =>
      os (si s5 46 5 (-1)) fun s6 =>
      os (si s6 46 6 (-1)) fun s7 =>
      os (si s7 46 7 0) fun s8 =>
      l_Ea_beginAnew_82 FU 0 s8)
    else (
      if (iw (2 * (gi s0 2 9))) ≤ x1 then (
        j_Ea_beginAnew_42 (l_Ea_beginAnew_2 fu) x1 x1 0 s0)
      else (
        oc (0 ≤ x1 ∧ x1 < 12) <|
        j_Ea_beginAnew_42 (l_Ea_beginAnew_2 fu) x1 x1 (gi s0 11 ((x1).toNat)) s0))
noncomputable def f_Ea_beginAnew  (s0 : SS) : OO :=
  l_Ea_beginAnew_2 FU 0 s0
noncomputable def j_Ea_keepAct_40   (s0 : SS) : OO :=
  ob (f_Ea_slot s0) fun r2 s2 =>
  ob (f_Ea_put 48 r2 s2) fun r3 s3 =>
  some (0, s3)
noncomputable def f_Ea_keepAct  (s0 : SS) : OO :=
  os (si s0 46 11 0) fun s1 =>
  if 40 ≤ (gi s1 46 10) then (
    os (si s1 46 9 (Int.tmod (iw ((gi s1 46 9) + 1)) 41)) fun s3 =>
    j_Ea_keepAct_40 s3)
  else (
    os (si s1 46 10 (iw ((gi s1 46 10) + 1))) fun s4 =>
    j_Ea_keepAct_40 s4)
noncomputable def f_Ea_beginWalk (a1 : Int) (a2 : Int) (s0 : SS) : OO :=
  ob (f_Ta_begin 51 a1 s0) fun r2 s2 =>
  os (si s2 46 4 1) fun s3 =>
  os (si s3 46 5 a2) fun s4 =>
  os (si s4 46 6 (-1)) fun s5 =>
  os (si s5 46 7 0) fun s6 =>
  ob (f_Ea_keepAct s6) fun r7 s7 =>
  some (0, s7)
noncomputable def f_Ea_takeWay (a1 : Int) (s0 : SS) : OO :=
  if (gi s0 46 4) = 0 then (
    some ((-1), s0))
  else (
    if (gi s0 46 6) = (-1) then (
      ob (f_Ta_isOver 51 s0) fun r4 s4 =>
      if r4 = 0 then (
        ob (f_La_otherEnd 2 a1 (gi s4 46 5) s4) fun r7 s7 =>
        if r7 = (-1) then (
          some ((-1), s7))
        else (
          os (si s7 46 6 a1) fun s9 =>
          os (si s9 46 7 0) fun s10 =>
          ob (f_Ea_keepAct s10) fun r11 s11 =>
          oc (0 ≤ a1 ∧ a1 < 14) <|
          some (gi s11 8 ((a1).toNat), s11)))
      else (
        some ((-1), s4)))
    else (
      some ((-1), s0)))
noncomputable def f_Ea_sayOne  (s0 : SS) : OO :=
  ob (f_La_otherEnd 2 (gi s0 46 6) (gi s0 46 5) s0) fun r2 s2 =>
  os (si s2 46 7 (iw ((gi s2 46 7) + 1))) fun s3 =>
  ob (f_Ta_sayOnWay 51 47 (gi s3 46 6) (gi s3 46 7) r2 s3) fun r6 s6 =>
  ob (f_La_isWay 2 (gi s6 46 6) s6) fun r8 s8 =>
  if r8 = 0 then (
    some (0, s8))
  else (
    oc (0 ≤ gi s8 46 6 ∧ gi s8 46 6 < 14) <|
    if (gi s8 46 7) < (gi s8 8 ((gi s8 46 6).toNat)) then (
      some (0, s8))
    else (
      os (si s8 46 5 r2) fun s14 =>
      os (si s14 46 6 (-1)) fun s15 =>
      os (si s15 46 7 0) fun s16 =>
      some (0, s16)))
noncomputable def j_Ea_sayWords_50  (x2 : Int) (s0 : SS) : OO :=
  ob (f_Ea_keepAct s0) fun r1 s1 =>
  some (x2, s1)
noncomputable def l_Ea_sayWords_11 (y1 : Int) : Nat → Int → SS → OO
  | 0, _, _ => none
  | fu + 1, x2, s0 =>
    if y1 ≤ x2 then (
      j_Ea_sayWords_50 x2 s0)
    else (
      ob (f_La_isWay 2 (gi s0 46 6) s0) fun r3 s3 =>
      if r3 = 0 then (
        j_Ea_sayWords_50 x2 s3)
      else (
        ob (f_Ta_isOver 51 s3) fun r6 s6 =>
        if r6 = 0 then (
          ob (f_Ea_sayOne s6) fun r8 s8 =>
          (l_Ea_sayWords_11 y1 fu) (iw (x2 + 1)) s8)
        else (
          j_Ea_sayWords_50 x2 s6)))
noncomputable def f_Ea_sayWords (a1 : Int) (s0 : SS) : OO :=
  if (gi s0 46 4) = 0 then (
    some ((-1), s0))
  else (
    l_Ea_sayWords_11 a1 FU 0 s0)
noncomputable def j_Ea_passYear_100  (x1 : Int) (s0 : SS) : OO :=
  ob (f_Ea_keepAct s0) fun r1 s1 =>
  some (x1, s1)
noncomputable def j_Ea_passYear_67  (x1 : Int) (z0 : Int) (s0 : SS) : OO :=
  if z0 < 0 then (
    j_Ea_passYear_100 x1 s0)
  else (
    if 12 ≤ z0 then (
      j_Ea_passYear_100 x1 s0)
    else (
      oc (0 ≤ z0 ∧ z0 < 12) <|
      oc (0 ≤ z0 ∧ z0 < 12) <|
      os (si s0 47 ((z0).toNat) (zmin (iw ((gi s0 47 ((z0).toNat)) + 1)) 9)) fun s8 =>
      j_Ea_passYear_100 x1 s8))
noncomputable def f_Ea_passYear  (s0 : SS) : OO :=
  if 0 < (gi s0 2 9) then (
    os (si s0 46 2 (Int.tmod (iw ((iw ((gi s0 46 2) * 137)) + 71)) 1000)) fun s3 =>
    oc (¬ gi s3 2 9 = 0) <|
    ol (Int.tmod (gi s3 46 2) (gi s3 2 9)) fun x6_ =>
    if (Int.tmod (Int.tdiv (gi s3 46 2) 10) 2) = 0 then (
      j_Ea_passYear_67 x6_ (iw (2 * x6_)) s3)
    else (
      j_Ea_passYear_67 x6_ (iw ((iw (2 * x6_)) + 1)) s3))
  else (
    some ((-1), s0))
noncomputable def f_Ea_tellWalk (a1 : Int) (s0 : SS) : OO :=
  if (gi s0 46 4) = 0 then (
    some ((-1), s0))
  else (
    if a1 = 0 then (
      some (gi s0 46 5, s0))
    else     if a1 = 1 then (
        some (gi s0 46 6, s0))
    else     if a1 = 2 then (
          some (gi s0 46 7, s0))
    else     if a1 = 3 then (
            some (gi s0 51 5, s0))
    else     if a1 = 4 then (
              some (gi s0 51 4, s0))
    else     if a1 = 5 then (
                some (gi s0 51 6, s0))
    else     if a1 = 6 then (
                  ob (f_Ta_isOver 51 s0) fun r13 s13 =>
                  if r13 = 0 then (
                    some (0, s13))
                  else (
                    some (1, s13)))
    else (
                  some ((-1), s0)))
noncomputable def j_Ea_bring_72 (u1 : Nat) (x3 : Int) (z1 : Int) (s0 : SS) : OO :=
  oc (z1 = 0 ∨ z1 = 1) <|
  os (si s0 46 4 z1) fun s2 =>
  oc (0 ≤ iw (x3 + 2) ∧ iw (x3 + 2) < ((rN u1 : Nat) : Int)) <|
  os (si s2 46 5 (gi s2 u1 ((iw (x3 + 2)).toNat))) fun s4 =>
  oc (0 ≤ iw (x3 + 3) ∧ iw (x3 + 3) < ((rN u1 : Nat) : Int)) <|
  os (si s4 46 6 (gi s4 u1 ((iw (x3 + 3)).toNat))) fun s6 =>
  oc (0 ≤ iw (x3 + 4) ∧ iw (x3 + 4) < ((rN u1 : Nat) : Int)) <|
  os (si s6 46 7 (gi s6 u1 ((iw (x3 + 4)).toNat))) fun s8 =>
  ob (f_Ta_bring 51 u1 (iw (x3 + 5)) s8) fun r10 s10 =>
  some (0, s10)
noncomputable def l_Ea_bring_16 (u1 : Nat) (y2 : Int) : Nat → Int → SS → OO
  | 0, _, _ => none
  | fu + 1, x3, s0 =>
    if 12 ≤ x3 then (
      ol (iw (y2 + 12)) fun x4_ =>
      oc (0 ≤ x4_ ∧ x4_ < ((rN u1 : Nat) : Int)) <|
      os (si s0 46 2 (gi s0 u1 ((x4_).toNat))) fun s6 =>
      oc (0 ≤ iw (x4_ + 1) ∧ iw (x4_ + 1) < ((rN u1 : Nat) : Int)) <|
      if (gi s6 u1 ((iw (x4_ + 1)).toNat)) = 1 then (
        j_Ea_bring_72 u1 x4_ 1 s6)
      else (
        j_Ea_bring_72 u1 x4_ 0 s6))
    else (
      oc (0 ≤ iw (y2 + x3) ∧ iw (y2 + x3) < ((rN u1 : Nat) : Int)) <|
      oc (0 ≤ x3 ∧ x3 < 12) <|
      os (si s0 47 ((x3).toNat) (gi s0 u1 ((iw (y2 + x3)).toNat))) fun s12 =>
      (l_Ea_bring_16 u1 y2 fu) (iw (x3 + 1)) s12)
noncomputable def f_Ea_bring (u1 : Nat) (a2 : Int) (s0 : SS) : OO :=
  if a2 < 0 then (
    some (0, s0))
  else (
    if a2 ≤ (iw (((rN u1 : Nat) : Int) - 41)) then (
      l_Ea_bring_16 u1 a2 FU 0 s0)
    else (
      some (0, s0)))
noncomputable def f_Ea_takeBack  (s0 : SS) : OO :=
  if 0 < (gi s0 46 10) then (
    os (si s0 46 10 (iw ((gi s0 46 10) - 1))) fun s2 =>
    os (si s2 46 11 (iw ((gi s2 46 11) + 1))) fun s3 =>
    ob (f_Ea_slot s3) fun r5 s5 =>
    ob (f_Ea_bring 48 r5 s5) fun r6 s6 =>
    some (1, s6))
  else (
    some (0, s0))
noncomputable def f_Ea_doAgain  (s0 : SS) : OO :=
  if 0 < (gi s0 46 11) then (
    os (si s0 46 10 (iw ((gi s0 46 10) + 1))) fun s2 =>
    os (si s2 46 11 (iw ((gi s2 46 11) - 1))) fun s3 =>
    ob (f_Ea_slot s3) fun r5 s5 =>
    ob (f_Ea_bring 48 r5 s5) fun r6 s6 =>
    some (1, s6))
  else (
    some (0, s0))
noncomputable def f_Ea_wordsInAll  (s0 : SS) : OO :=
  if (gi s0 46 4) = 0 then (
    some (0, s0))
  else (
    some (gi s0 51 5, s0))
noncomputable def f_Ea_keep (a1 : Int) (s0 : SS) : OO :=
  if a1 < 0 then (
    some ((-1), s0))
  else (
    if a1 < 3 then (
      oc (0 ≤ a1 ∧ a1 < 3) <|
      os (si s0 50 ((a1).toNat) 1) fun s5 =>
      ob (f_Ea_put 49 (iw (a1 * 41)) s5) fun r7 s7 =>
      ob (f_Ea_wordsInAll s7) fun r8 s8 =>
      some (r8, s8))
    else (
      some ((-1), s0)))
noncomputable def f_Ea_goBack (a1 : Int) (s0 : SS) : OO :=
  if a1 < 0 then (
    some ((-1), s0))
  else (
    if 3 ≤ a1 then (
      some ((-1), s0))
    else (
      oc (0 ≤ a1 ∧ a1 < 3) <|
      if (gi s0 50 ((a1).toNat)) = 0 then (
        some ((-1), s0))
      else (
        ob (f_Ea_bring 49 (iw (a1 * 41)) s0) fun r7 s7 =>
        ob (f_Ea_forgetActs s7) fun r8 s8 =>
        ob (f_Ea_wordsInAll s8) fun r9 s9 =>
        some (r9, s9))))
set_option maxRecDepth 20000 in
theorem m_Lo_bitCount_95d88 {l : Launch} {D : va_G} {cs : Nat → ClassId} {aS aV : Nat} {A : Nat → Prop} {ad : Nat → Nat} {n : Nat} {nl : Nat → Nat → Bool} {out : Int × SS} (hw : w_WH n nl) {a1 : Int} (ra1 : rJ a1) {s0 : SS} (hs0 : rS s0) (hf : f_Lo_bitCount_95d88 a1 s0 = some out) : w_MC l D cs aS aV A yJ13_bitCount_95d88 cJ13_bitCount_95d88 2 1 rm_Lo_bitCount_95d88 ad n nl [.long (vJ a1)] s0 (w_Po ad n nl out) := by
  refine w_MC_of (by decide +kernel) (by decide) hs0 (Nat.le_of_ble_eq_true rfl) (fun K h hr => ?_)
  refine r_lv (lv' := [(0, .long (vJ a1))]) rfl ?_
  unfold f_Lo_bitCount_95d88 at hf
  refine r_rS h (fun hs0 => ?_)
  refine r_lload_n h dJ13_bitCount_95d88_0 rfl 0 rfl ?_
  refine r_lload_n h dJ13_bitCount_95d88_1 rfl 0 rfl ?_
  refine r_iconst h dJ13_bitCount_95d88_2 ?_
  refine r_lushr h dJ13_bitCount_95d88_3 ?_
  refine r_ldc2 (x := 6148914691236517205) h dJ13_bitCount_95d88_4 (gt_in6 47 rfl rfl) rfl ?_
  refine r_land h dJ13_bitCount_95d88_7 ?_
  refine r_lsub h dJ13_bitCount_95d88_8 ?_
  refine r_olJ hf (rJ_jw _) (fun x1_ rx1_ hf => ?_)
  refine r_lstore_n h [(0, .long (vJ x1_))] dJ13_bitCount_95d88_9 rfl (by decide) rfl ?_
  refine r_lload_n h dJ13_bitCount_95d88_10 rfl 0 rfl ?_
  refine r_ldc2 (x := 3689348814741910323) h dJ13_bitCount_95d88_11 (gt_in6 48 rfl rfl) rfl ?_
  refine r_land h dJ13_bitCount_95d88_14 ?_
  refine r_lload_n h dJ13_bitCount_95d88_15 rfl 0 rfl ?_
  refine r_iconst h dJ13_bitCount_95d88_16 ?_
  refine r_lushr h dJ13_bitCount_95d88_17 ?_
  refine r_ldc2 (x := 3689348814741910323) h dJ13_bitCount_95d88_18 (gt_in6 48 rfl rfl) rfl ?_
  refine r_land h dJ13_bitCount_95d88_21 ?_
  refine r_ladd h dJ13_bitCount_95d88_22 ?_
  refine r_olJ hf (rJ_jw _) (fun x2_ rx2_ hf => ?_)
  refine r_lstore_n h [(0, .long (vJ x2_))] dJ13_bitCount_95d88_23 rfl (by decide) rfl ?_
  refine r_lload_n h dJ13_bitCount_95d88_24 rfl 0 rfl ?_
  refine r_lload_n h dJ13_bitCount_95d88_25 rfl 0 rfl ?_
  refine r_iconst h dJ13_bitCount_95d88_26 ?_
  refine r_lushr h dJ13_bitCount_95d88_27 ?_
  refine r_ladd h dJ13_bitCount_95d88_28 ?_
  refine r_ldc2 (x := 1085102592571150095) h dJ13_bitCount_95d88_29 (gt_in6 49 rfl rfl) rfl ?_
  refine r_land h dJ13_bitCount_95d88_32 ?_
  refine r_olJ hf (rJ_yand _ _) (fun x3_ rx3_ hf => ?_)
  refine r_lstore_n h [(0, .long (vJ x3_))] dJ13_bitCount_95d88_33 rfl (by decide) rfl ?_
  refine r_lload_n h dJ13_bitCount_95d88_34 rfl 0 rfl ?_
  refine r_lload_n h dJ13_bitCount_95d88_35 rfl 0 rfl ?_
  refine r_bipush h dJ13_bitCount_95d88_36 (by decide) ?_
  refine r_lushr h dJ13_bitCount_95d88_38 ?_
  refine r_ladd h dJ13_bitCount_95d88_39 ?_
  refine r_olJ hf (rJ_jw _) (fun x4_ rx4_ hf => ?_)
  refine r_lstore_n h [(0, .long (vJ x4_))] dJ13_bitCount_95d88_40 rfl (by decide) rfl ?_
  refine r_lload_n h dJ13_bitCount_95d88_41 rfl 0 rfl ?_
  refine r_lload_n h dJ13_bitCount_95d88_42 rfl 0 rfl ?_
  refine r_bipush h dJ13_bitCount_95d88_43 (by decide) ?_
  refine r_lushr h dJ13_bitCount_95d88_45 ?_
  refine r_ladd h dJ13_bitCount_95d88_46 ?_
  refine r_olJ hf (rJ_jw _) (fun x5_ rx5_ hf => ?_)
  refine r_lstore_n h [(0, .long (vJ x5_))] dJ13_bitCount_95d88_47 rfl (by decide) rfl ?_
  refine r_lload_n h dJ13_bitCount_95d88_48 rfl 0 rfl ?_
  refine r_lload_n h dJ13_bitCount_95d88_49 rfl 0 rfl ?_
  refine r_bipush h dJ13_bitCount_95d88_50 (by decide) ?_
  refine r_lushr h dJ13_bitCount_95d88_52 ?_
  refine r_ladd h dJ13_bitCount_95d88_53 ?_
  refine r_olJ hf (rJ_jw _) (fun x6_ rx6_ hf => ?_)
  refine r_lstore_n h [(0, .long (vJ x6_))] dJ13_bitCount_95d88_54 rfl (by decide) rfl ?_
  refine r_lload_n h dJ13_bitCount_95d88_55 rfl 0 rfl ?_
  refine r_l2i h dJ13_bitCount_95d88_56 rx6_ ?_
  refine r_bipush h dJ13_bitCount_95d88_57 (by decide) ?_
  refine r_iand h dJ13_bitCount_95d88_59 ?_
  exact r_ret1 hr dJ13_bitCount_95d88_60 (rI_zand _ _) hf
set_option maxRecDepth 20000 in
theorem m_Rp_forget {l : Launch} {D : va_G} {cs : Nat → ClassId} {aS aV : Nat} {A : Nat → Prop} {ad : Nat → Nat} {n : Nat} {nl : Nat → Nat → Bool} {out : Int × SS} (hw : w_WH n nl) (ht : 79 < n) {s0 : SS} (hs0 : rS s0) (hf : f_Rp_forget s0 = some out) : w_MC l D cs aS aV A yX6_forget cX6_forget 1 0 rm_Rp_forget ad n nl [.ref (ad 79)] s0 (w_Po ad n nl out) := by
  refine w_MC_of (by decide +kernel) (by decide) hs0 (Nat.le_of_ble_eq_true rfl) (fun K h hr => ?_)
  refine r_lv (lv' := [(0, .ref (ad 79))]) rfl ?_
  unfold f_Rp_forget at hf
  refine r_rS h (fun hs0 => ?_)
  refine r_aload_n h dX6_forget_0 rfl 0 rfl ?_
  refine r_iconst h dX6_forget_1 ?_
  refine p_X6_35 h dX6_forget_2 ht rC_79 (rIc rfl) ?_
  refine r_os hf (fun s1 hf => ?_)
  refine r_rS h (fun hs1 => ?_)
  exact r_ret0 (x := 0) hr dX6_forget_5 hf
set_option maxRecDepth 20000 in
theorem m_Rp_toldLength {l : Launch} {D : va_G} {cs : Nat → ClassId} {aS aV : Nat} {A : Nat → Prop} {ad : Nat → Nat} {n : Nat} {nl : Nat → Nat → Bool} {out : Int × SS} (hw : w_WH n nl) (ht : 79 < n) {a1 : Int} (ra1 : rI a1) {s0 : SS} (hs0 : rS s0) (hf : f_Rp_toldLength a1 s0 = some out) : w_MC l D cs aS aV A yX6_toldLength cX6_toldLength 3 1 rm_Rp_toldLength ad n nl [.ref (ad 79), .int (vI a1)] s0 (w_Po ad n nl out) := by
  refine w_MC_of (by decide +kernel) (by decide) hs0 (Nat.le_of_ble_eq_true rfl) (fun K h hr => ?_)
  refine r_lv (lv' := [(0, .ref (ad 79)), (1, .int (vI a1))]) rfl ?_
  unfold f_Rp_toldLength at hf
  refine r_rS h (fun hs0 => ?_)
  refine r_aload_n h dX6_toldLength_0 rfl 0 rfl ?_
  have hq1 := w_ref hw ht rC_79 (by decide) (k := 1) (by decide) rf_6_1
  refine g_X6_31 h dX6_toldLength_1 ht rC_79 hq1.1 ?_
  refine r_iload_n h dX6_toldLength_4 rfl 1 rfl ?_
  obtain ⟨r2, s2, hq2, hf⟩ := ob_some hf
  refine r_callV0 h [.int (vI a1)] dX6_toldLength_5 (fun hs => m_Ta_begin hw hq1.2 rC_83 ra1 hs hq2) ml_X6_79 cv_Ta_begin rfl (co := 9) rfl (by decide) hq1.2 rC_83 ⟨rfl, rfl⟩ ⟨Nat.le_of_ble_eq_true rfl, Nat.le_of_ble_eq_true rfl⟩ ⟨Nat.le_of_ble_eq_true rfl, Nat.le_of_ble_eq_true rfl⟩ (Nat.le_of_ble_eq_true rfl) rfl (fun hr2 hs2 => ?_)
  refine r_aload_n h dX6_toldLength_8 rfl 0 rfl ?_
  have hq3 := w_ref hw ht rC_79 (by decide) (k := 1) (by decide) rf_6_1
  refine g_X6_31 h dX6_toldLength_9 ht rC_79 hq3.1 ?_
  refine r_aload_n h dX6_toldLength_12 rfl 0 rfl ?_
  have hq4 := w_ref hw ht rC_79 (by decide) (k := 0) (by decide) rf_6_0
  refine g_X6_22 h dX6_toldLength_13 ht rC_79 hq4.1 ?_
  have hq5c := rf_4_11 _ rC_2
  have hq5 := w_ref hw hq4.2 rC_2 (by decide) (k := 11) (by decide) hq5c.1
  refine g_X6_83 h dX6_toldLength_16 hq4.2 rC_2 hq5.1 ?_
  refine r_st (st0 := [.ref (ad 11), .ref (ad 83)]) rfl ?_
  refine r_bipush h dX6_toldLength_19 (by decide) ?_
  obtain ⟨r6, s6, hq6, hf⟩ := ob_some hf
  refine r_callV1 h [.ref (ad 11), .int (vI 60)] dX6_toldLength_21 (fun hs => m_Ta_talkOpenly hw hq3.2 rC_83 hq5.2 rC_11 (rIc rfl) hs hq6) ml_X6_86 cv_Ta_talkOpenly rfl (co := 9) rfl (by decide) hq3.2 rC_83 ⟨rfl, rfl⟩ ⟨Nat.le_of_ble_eq_true rfl, Nat.le_of_ble_eq_true rfl⟩ ⟨Nat.le_of_ble_eq_true rfl, Nat.le_of_ble_eq_true rfl⟩ (Nat.le_of_ble_eq_true rfl) rfl (fun hr6 hs6 => ?_)
  refine r_istore_n h [(2, .int (vI r6)), (0, .ref (ad 79)), (1, .int (vI a1))] dX6_toldLength_24 rfl (by decide) rfl ?_
  refine r_iload_n h dX6_toldLength_25 rfl 0 rfl ?_
  refine r_iconst h dX6_toldLength_26 ?_
  refine r_icmp_ne (tgt := 35) h dX6_toldLength_27 (by decide) hr6 (rIc rfl) (fun hc7 => ?_) (fun hc7 => ?_)
  · have hf := ite_f hc7 hf
    refine r_iload_n h dX6_toldLength_35 rfl 0 rfl ?_
    exact r_ret1 hr dX6_toldLength_36 hr6 hf
  · have hf := ite_nf hc7 hf
    refine r_bipush h dX6_toldLength_30 (by decide) ?_
    refine r_goto (tgt := 36) h dX6_toldLength_32 (by decide) ?_
    exact r_ret1 hr dX6_toldLength_36 (rIc rfl) hf
set_option maxRecDepth 20000 in
theorem b_Rp_roadsBy_35 {l : Launch} {D : va_G} {cs : Nat → ClassId} {aS aV : Nat} {A : Nat → Prop} {K : KT} {ad : Nat → Nat} {n : Nat} {nl : Nat → Nat → Bool} {out : Int × SS} (h : w_Cl l rm_Rp_roadsBy D cs aS aV A cX6_roadsBy 6 RX6 "roadsBy" K) (hr : w_Rt 3 cX6_roadsBy 0 0 (w_Po ad n nl out) K) (hw : w_WH n nl)  (x1 : Int) (x2 : Int) (z0 : Int) (s0 : SS) (rx1 : rI x1) (rx2 : rJ x2) (rz0 : rJ z0) (hf : j_Rp_roadsBy_35 x1 x2 z0 s0 = some out) : K ad n nl 0 0 35 [(1, .int (vI x1)), (2, .long (vJ x2))] [.long (vJ z0)] s0 := by
  unfold j_Rp_roadsBy_35 at hf
  refine r_rS h (fun hs0 => ?_)
  refine r_lstore h [(4, .long (vJ z0)), (1, .int (vI x1)), (2, .long (vJ x2))] dX6_roadsBy_35 (by decide) rfl ?_
  refine r_iload_n h dX6_roadsBy_37 rfl 1 rfl ?_
  refine r_iconst h dX6_roadsBy_38 ?_
  refine r_icmp_ne (tgt := 44) h dX6_roadsBy_39 (by decide) rx1 (rIc rfl) (fun hc1 => ?_) (fun hc1 => ?_)
  · have hf := ite_f hc1 hf
    refine r_iload_n h dX6_roadsBy_44 rfl 1 rfl ?_
    refine r_iconst h dX6_roadsBy_45 ?_
    refine r_icmp_ne (tgt := 54) h dX6_roadsBy_46 (by decide) rx1 (rIc rfl) (fun hc2 => ?_) (fun hc2 => ?_)
    · have hf := ite_f hc2 hf
      refine r_ldc2 (x := 1152921504606846975) h dX6_roadsBy_54 (gt_in6 3 rfl rfl) rfl ?_
      refine r_lload_n h dX6_roadsBy_57 rfl 2 rfl ?_
      refine r_ldc2 (x := (-1)) h dX6_roadsBy_58 (gt_in6 4 rfl rfl) rfl ?_
      refine r_lxor h dX6_roadsBy_61 ?_
      refine r_land h dX6_roadsBy_62 ?_
      refine r_lload h dX6_roadsBy_63 0 rfl ?_
      refine r_ldc2 (x := (-1)) h dX6_roadsBy_65 (gt_in6 4 rfl rfl) rfl ?_
      refine r_lxor h dX6_roadsBy_68 ?_
      refine r_land h dX6_roadsBy_69 ?_
      exact r_ret3 hr dX6_roadsBy_70 (rJ_yand _ _) hf
    · have hf := ite_nf hc2 hf
      refine r_lload h dX6_roadsBy_49 0 rfl ?_
      refine r_goto (tgt := 70) h dX6_roadsBy_51 (by decide) ?_
      exact r_ret3 hr dX6_roadsBy_70 rz0 hf
  · have hf := ite_nf hc1 hf
    refine r_lload_n h dX6_roadsBy_42 rfl 2 rfl ?_
    exact r_ret3 hr dX6_roadsBy_43 rx2 hf
set_option maxRecDepth 20000 in
theorem b_Rp_roadsBy_19 {l : Launch} {D : va_G} {cs : Nat → ClassId} {aS aV : Nat} {A : Nat → Prop} {K : KT} {ad : Nat → Nat} {n : Nat} {nl : Nat → Nat → Bool} {out : Int × SS} (h : w_Cl l rm_Rp_roadsBy D cs aS aV A cX6_roadsBy 6 RX6 "roadsBy" K) (hr : w_Rt 3 cX6_roadsBy 0 0 (w_Po ad n nl out) K) (hw : w_WH n nl)  (x0 : Int) (x1 : Int) (z0 : Int) (s0 : SS) (rx0 : rI x0) (rx1 : rI x1) (rz0 : rJ z0) (hf : j_Rp_roadsBy_19 x0 x1 z0 s0 = some out) : K ad n nl 0 0 19 [(0, .int (vI x0)), (1, .int (vI x1))] [.long (vJ z0)] s0 := by
  unfold j_Rp_roadsBy_19 at hf
  refine r_rS h (fun hs0 => ?_)
  refine r_lstore_n h [(2, .long (vJ z0)), (0, .int (vI x0)), (1, .int (vI x1))] dX6_roadsBy_19 rfl (by decide) rfl ?_
  refine r_iload_n h dX6_roadsBy_20 rfl 1 rfl ?_
  refine r_bipush h dX6_roadsBy_21 (by decide) ?_
  refine r_icmp_le (tgt := 30) h dX6_roadsBy_23 (by decide) rx0 (rIc rfl) (fun hc1 => ?_) (fun hc1 => ?_)
  · have hf := ite_t hc1 hf
    refine r_lconst (x := 1) h dX6_roadsBy_30 (by decide) ?_
    refine r_iload_n h dX6_roadsBy_31 rfl 1 rfl ?_
    refine r_iconst h dX6_roadsBy_32 ?_
    refine r_isub h dX6_roadsBy_33 ?_
    refine r_lshl h dX6_roadsBy_34 ?_
    refine r_sub h [2, 0] rfl ?_
    exact b_Rp_roadsBy_35 h hr hw x1 z0 (yshl 1 (iw (x0 - 1))) s0 rx1 rz0 (rJ_yshl _ _) hf
  · have hf := ite_f hc1 hf
    refine r_lconst (x := 0) h dX6_roadsBy_26 (by decide) ?_
    refine r_goto (tgt := 35) h dX6_roadsBy_27 (by decide) ?_
    refine r_sub h [2, 0] rfl ?_
    exact b_Rp_roadsBy_35 h hr hw x1 z0 0 s0 rx1 rz0 (rJc rfl) hf
set_option maxRecDepth 20000 in
theorem m_Rp_roadsBy {l : Launch} {D : va_G} {cs : Nat → ClassId} {aS aV : Nat} {A : Nat → Prop} {ad : Nat → Nat} {n : Nat} {nl : Nat → Nat → Bool} {out : Int × SS} (hw : w_WH n nl) {a1 : Int} (ra1 : rI a1) {a2 : Int} (ra2 : rI a2) {s0 : SS} (hs0 : rS s0) (hf : f_Rp_roadsBy a1 a2 s0 = some out) : w_MC l D cs aS aV A yX6_roadsBy cX6_roadsBy 6 3 rm_Rp_roadsBy ad n nl [.int (vI a1), .int (vI a2)] s0 (w_Po ad n nl out) := by
  refine w_MC_of (by decide +kernel) (by decide) hs0 (Nat.le_of_ble_eq_true rfl) (fun K h hr => ?_)
  refine r_lv (lv' := [(0, .int (vI a1)), (1, .int (vI a2))]) rfl ?_
  unfold f_Rp_roadsBy at hf
  refine r_rS h (fun hs0 => ?_)
  refine r_iload_n h dX6_roadsBy_0 rfl 0 rfl ?_
  refine r_bipush h dX6_roadsBy_1 (by decide) ?_
  refine r_icmp_le (tgt := 12) h dX6_roadsBy_3 (by decide) ra1 (rIc rfl) (fun hc1 => ?_) (fun hc1 => ?_)
  · have hf := ite_t hc1 hf
    refine r_lconst (x := 1) h dX6_roadsBy_12 (by decide) ?_
    refine r_iload_n h dX6_roadsBy_13 rfl 0 rfl ?_
    refine r_iconst h dX6_roadsBy_14 ?_
    refine r_isub h dX6_roadsBy_15 ?_
    refine r_lshl h dX6_roadsBy_16 ?_
    refine r_lconst (x := 1) h dX6_roadsBy_17 (by decide) ?_
    refine r_lsub h dX6_roadsBy_18 ?_
    exact b_Rp_roadsBy_19 h hr hw a1 a2 (jw ((yshl 1 (iw (a1 - 1))) - 1)) s0 ra1 ra2 (rJ_jw _) hf
  · have hf := ite_f hc1 hf
    refine r_ldc2 (x := 1152921504606846975) h dX6_roadsBy_6 (gt_in6 3 rfl rfl) rfl ?_
    refine r_goto (tgt := 19) h dX6_roadsBy_9 (by decide) ?_
    exact b_Rp_roadsBy_19 h hr hw a1 a2 1152921504606846975 s0 ra1 ra2 (rJc rfl) hf
set_option maxRecDepth 20000 in
theorem m_Rp_tell {l : Launch} {D : va_G} {cs : Nat → ClassId} {aS aV : Nat} {A : Nat → Prop} {ad : Nat → Nat} {n : Nat} {nl : Nat → Nat → Bool} {out : Int × SS} (hw : w_WH n nl) (ht : 79 < n) {a1 : Int} (ra1 : rI a1) {a2 : Int} (ra2 : rI a2) {s0 : SS} (hs0 : rS s0) (hf : f_Rp_tell a1 a2 s0 = some out) : w_MC l D cs aS aV A yX6_tell cX6_tell 3 1 rm_Rp_tell ad n nl [.ref (ad 79), .int (vI a1), .int (vI a2)] s0 (w_Po ad n nl out) := by
  refine w_MC_of (by decide +kernel) (by decide) hs0 (Nat.le_of_ble_eq_true rfl) (fun K h hr => ?_)
  refine r_lv (lv' := [(0, .ref (ad 79)), (1, .int (vI a1)), (2, .int (vI a2))]) rfl ?_
  unfold f_Rp_tell at hf
  refine r_rS h (fun hs0 => ?_)
  refine r_aload_n h dX6_tell_0 rfl 0 rfl ?_
  refine g_X6_35 h dX6_tell_1 ht rC_79 ?_
  refine r_if_lt (tgt := 16) h dX6_tell_4 (by decide) (hs0.1 _ _) (fun hc1 => ?_) (fun hc1 => ?_)
  · have hf := ite_t hc1 hf
    refine r_iconst h dX6_tell_16 ?_
    exact r_ret1 hr dX6_tell_17 (rIc rfl) hf
  · have hf := ite_f hc1 hf
    refine r_aload_n h dX6_tell_7 rfl 0 rfl ?_
    refine g_X6_35 h dX6_tell_8 ht rC_79 ?_
    refine r_bipush h dX6_tell_11 (by decide) ?_
    refine r_icmp_lt (tgt := 18) h dX6_tell_13 (by decide) (hs0.1 _ _) (rIc rfl) (fun hc2 => ?_) (fun hc2 => ?_)
    · have hf := ite_t hc2 hf
      refine r_aload_n h dX6_tell_18 rfl 0 rfl ?_
      have hq3 := w_ref hw ht rC_79 (by decide) (k := 4) (by decide) rf_6_4
      refine g_X6_9 h dX6_tell_19 ht rC_79 hq3.1 ?_
      refine r_aload_n h dX6_tell_22 rfl 0 rfl ?_
      refine g_X6_35 h dX6_tell_23 ht rC_79 ?_
      refine r_aload_n h dX6_tell_26 rfl 0 rfl ?_
      refine g_X6_39 h dX6_tell_27 ht rC_79 ?_
      obtain ⟨hi4, hf⟩ := oc_some hf
      refine r_iast h dX6_tell_30 hq3.2 rC_80 (hs0.1 _ _) (N := 30) (by rw [rN_80]; rfl) (j := (gi s0 79 3).toNat) rfl hi4 (hs0.1 _ _) ?_
      refine r_os hf (fun s5 hf => ?_)
      refine r_rS h (fun hs5 => ?_)
      refine r_aload_n h dX6_tell_31 rfl 0 rfl ?_
      have hq6 := w_ref hw ht rC_79 (by decide) (k := 5) (by decide) rf_6_5
      refine g_X6_15 h dX6_tell_32 ht rC_79 hq6.1 ?_
      refine r_aload_n h dX6_tell_35 rfl 0 rfl ?_
      refine g_X6_35 h dX6_tell_36 ht rC_79 ?_
      refine r_iconst h dX6_tell_39 ?_
      obtain ⟨hi7, hf⟩ := oc_some hf
      refine r_iast h dX6_tell_40 hq6.2 rC_81 (hs5.1 _ _) (N := 30) (by rw [rN_81]; rfl) (j := (gi s5 79 3).toNat) rfl hi7 (rIc rfl) ?_
      refine r_os hf (fun s8 hf => ?_)
      refine r_rS h (fun hs8 => ?_)
      refine r_aload_n h dX6_tell_41 rfl 0 rfl ?_
      have hq9 := w_ref hw ht rC_79 (by decide) (k := 6) (by decide) rf_6_6
      refine g_X6_18 h dX6_tell_42 ht rC_79 hq9.1 ?_
      refine r_aload_n h dX6_tell_45 rfl 0 rfl ?_
      refine g_X6_35 h dX6_tell_46 ht rC_79 ?_
      refine r_aload_n h dX6_tell_49 rfl 0 rfl ?_
      refine r_iload_n h dX6_tell_50 rfl 1 rfl ?_
      obtain ⟨r10, s10, hq10, hf⟩ := ob_some hf
      refine r_callV1 h [.int (vI a1)] dX6_tell_51 (fun hs => m_Rp_toldLength hw ht ra1 hs hq10) ml_X6_42 cv_Rp_toldLength rfl (co := 6) rfl (by decide) ht rC_79 ⟨rfl, rfl⟩ ⟨Nat.le_of_ble_eq_true rfl, Nat.le_of_ble_eq_true rfl⟩ ⟨Nat.le_of_ble_eq_true rfl, Nat.le_of_ble_eq_true rfl⟩ (Nat.le_of_ble_eq_true rfl) rfl (fun hr10 hs10 => ?_)
      refine r_iload_n h dX6_tell_54 rfl 2 rfl ?_
      obtain ⟨r11, s11, hq11, hf⟩ := ob_some hf
      refine r_callS3 h [.int (vI r10), .int (vI a2)] dX6_tell_55 (fun hs => m_Rp_roadsBy hw hr10 ra2 hs hq11) ml_X6_46 cv_Rp_roadsBy rfl ⟨rfl, rfl⟩ ⟨Nat.le_of_ble_eq_true rfl, Nat.le_of_ble_eq_true rfl⟩ ⟨Nat.le_of_ble_eq_true rfl, Nat.le_of_ble_eq_true rfl⟩ (Nat.le_of_ble_eq_true rfl) rfl (fun hr11 hs11 => ?_)
      obtain ⟨hi12, hf⟩ := oc_some hf
      refine r_last h dX6_tell_58 hq9.2 rC_82 (hs8.1 _ _) (N := 30) (by rw [rN_82]; rfl) (j := (gi s8 79 3).toNat) rfl hi12 hr11 ?_
      refine r_os hf (fun s13 hf => ?_)
      refine r_rS h (fun hs13 => ?_)
      refine r_aload_n h dX6_tell_59 rfl 0 rfl ?_
      refine r_dup h dX6_tell_60 rfl ?_
      refine g_X6_35 h dX6_tell_61 ht rC_79 ?_
      refine r_iconst h dX6_tell_64 ?_
      refine r_iadd h dX6_tell_65 ?_
      refine p_X6_35 h dX6_tell_66 ht rC_79 (rI_iw _) ?_
      refine r_os hf (fun s14 hf => ?_)
      refine r_rS h (fun hs14 => ?_)
      refine r_aload_n h dX6_tell_69 rfl 0 rfl ?_
      refine g_X6_35 h dX6_tell_70 ht rC_79 ?_
      refine r_iconst h dX6_tell_73 ?_
      refine r_isub h dX6_tell_74 ?_
      exact r_ret1 hr dX6_tell_75 (rI_iw _) hf
    · have hf := ite_f hc2 hf
      refine r_iconst h dX6_tell_16 ?_
      exact r_ret1 hr dX6_tell_17 (rIc rfl) hf
set_option maxRecDepth 20000 in
theorem m_Rp_takeBack {l : Launch} {D : va_G} {cs : Nat → ClassId} {aS aV : Nat} {A : Nat → Prop} {ad : Nat → Nat} {n : Nat} {nl : Nat → Nat → Bool} {out : Int × SS} (hw : w_WH n nl) (ht : 79 < n) {a1 : Int} (ra1 : rI a1) {s0 : SS} (hs0 : rS s0) (hf : f_Rp_takeBack a1 s0 = some out) : w_MC l D cs aS aV A yX6_takeBack cX6_takeBack 2 2 rm_Rp_takeBack ad n nl [.ref (ad 79), .int (vI a1)] s0 (w_Po ad n nl out) := by
  refine w_MC_of (by decide +kernel) (by decide) hs0 (Nat.le_of_ble_eq_true rfl) (fun K h hr => ?_)
  refine r_lv (lv' := [(0, .ref (ad 79)), (1, .int (vI a1))]) rfl ?_
  unfold f_Rp_takeBack at hf
  refine r_rS h (fun hs0 => ?_)
  refine r_iload_n h dX6_takeBack_0 rfl 1 rfl ?_
  refine r_if_lt (tgt := 28) h dX6_takeBack_1 (by decide) ra1 (fun hc1 => ?_) (fun hc1 => ?_)
  · have hf := ite_t hc1 hf
    refine r_iconst h dX6_takeBack_28 ?_
    exact r_ret2 hr dX6_takeBack_29 (Or.inl rfl) hf
  · have hf := ite_f hc1 hf
    refine r_iload_n h dX6_takeBack_4 rfl 1 rfl ?_
    refine r_aload_n h dX6_takeBack_5 rfl 0 rfl ?_
    refine g_X6_35 h dX6_takeBack_6 ht rC_79 ?_
    refine r_icmp_ge (tgt := 28) h dX6_takeBack_9 (by decide) ra1 (hs0.1 _ _) (fun hc2 => ?_) (fun hc2 => ?_)
    · have hf := ite_t hc2 hf
      refine r_iconst h dX6_takeBack_28 ?_
      exact r_ret2 hr dX6_takeBack_29 (Or.inl rfl) hf
    · have hf := ite_f hc2 hf
      refine r_iload_n h dX6_takeBack_12 rfl 1 rfl ?_
      refine r_bipush h dX6_takeBack_13 (by decide) ?_
      refine r_icmp_ge (tgt := 28) h dX6_takeBack_15 (by decide) ra1 (rIc rfl) (fun hc3 => ?_) (fun hc3 => ?_)
      · have hf := ite_t hc3 hf
        refine r_iconst h dX6_takeBack_28 ?_
        exact r_ret2 hr dX6_takeBack_29 (Or.inl rfl) hf
      · have hf := ite_f hc3 hf
        refine r_aload_n h dX6_takeBack_18 rfl 0 rfl ?_
        have hq4 := w_ref hw ht rC_79 (by decide) (k := 5) (by decide) rf_6_5
        refine g_X6_15 h dX6_takeBack_19 ht rC_79 hq4.1 ?_
        refine r_iload_n h dX6_takeBack_22 rfl 1 rfl ?_
        obtain ⟨hi5, hf⟩ := oc_some hf
        refine r_iald h dX6_takeBack_23 hq4.2 rC_81 ra1 (N := 30) (by rw [rN_81]; rfl) (j := (a1).toNat) rfl hi5 ?_
        refine r_iconst h dX6_takeBack_24 ?_
        refine r_icmp_eq (tgt := 30) h dX6_takeBack_25 (by decide) (hs0.1 _ _) (rIc rfl) (fun hc6 => ?_) (fun hc6 => ?_)
        · have hf := ite_t hc6 hf
          refine r_aload_n h dX6_takeBack_30 rfl 0 rfl ?_
          have hq7 := w_ref hw ht rC_79 (by decide) (k := 5) (by decide) rf_6_5
          refine g_X6_15 h dX6_takeBack_31 ht rC_79 hq7.1 ?_
          refine r_iload_n h dX6_takeBack_34 rfl 1 rfl ?_
          refine r_aload_n h dX6_takeBack_35 rfl 0 rfl ?_
          refine g_X6_39 h dX6_takeBack_36 ht rC_79 ?_
          obtain ⟨hi8, hf⟩ := oc_some hf
          refine r_iast h dX6_takeBack_39 hq7.2 rC_81 ra1 (N := 30) (by rw [rN_81]; rfl) (j := (a1).toNat) rfl hi8 (hs0.1 _ _) ?_
          refine r_os hf (fun s9 hf => ?_)
          refine r_rS h (fun hs9 => ?_)
          refine r_iconst h dX6_takeBack_40 ?_
          exact r_ret2 hr dX6_takeBack_41 (Or.inr rfl) hf
        · have hf := ite_f hc6 hf
          refine r_iconst h dX6_takeBack_28 ?_
          exact r_ret2 hr dX6_takeBack_29 (Or.inl rfl) hf
set_option maxRecDepth 20000 in
theorem m_Rp_passTime {l : Launch} {D : va_G} {cs : Nat → ClassId} {aS aV : Nat} {A : Nat → Prop} {ad : Nat → Nat} {n : Nat} {nl : Nat → Nat → Bool} {out : Int × SS} (hw : w_WH n nl) (ht : 79 < n) {a1 : Int} (ra1 : rI a1) {s0 : SS} (hs0 : rS s0) (hf : f_Rp_passTime a1 s0 = some out) : w_MC l D cs aS aV A yX6_passTime cX6_passTime 2 1 rm_Rp_passTime ad n nl [.ref (ad 79), .int (vI a1)] s0 (w_Po ad n nl out) := by
  refine w_MC_of (by decide +kernel) (by decide) hs0 (Nat.le_of_ble_eq_true rfl) (fun K h hr => ?_)
  refine r_lv (lv' := [(0, .ref (ad 79)), (1, .int (vI a1))]) rfl ?_
  unfold f_Rp_passTime at hf
  refine r_rS h (fun hs0 => ?_)
  refine r_iload_n h dX6_passTime_0 rfl 1 rfl ?_
  refine r_if_lt (tgt := 22) h dX6_passTime_1 (by decide) ra1 (fun hc1 => ?_) (fun hc1 => ?_)
  · have hf := ite_t hc1 hf
    refine r_iconst h dX6_passTime_22 ?_
    exact r_ret1 hr dX6_passTime_23 (rIc rfl) hf
  · have hf := ite_f hc1 hf
    refine r_iload_n h dX6_passTime_4 rfl 1 rfl ?_
    refine r_sipush h dX6_passTime_5 (by decide) ?_
    refine r_icmp_gt (tgt := 22) h dX6_passTime_8 (by decide) ra1 (rIc rfl) (fun hc2 => ?_) (fun hc2 => ?_)
    · have hf := ite_t hc2 hf
      refine r_iconst h dX6_passTime_22 ?_
      exact r_ret1 hr dX6_passTime_23 (rIc rfl) hf
    · have hf := ite_f hc2 hf
      refine r_aload_n h dX6_passTime_11 rfl 0 rfl ?_
      refine g_X6_39 h dX6_passTime_12 ht rC_79 ?_
      refine r_iload_n h dX6_passTime_15 rfl 1 rfl ?_
      refine r_iadd h dX6_passTime_16 ?_
      refine r_ldc (x := 100000) h dX6_passTime_17 (gt_in6 21 rfl rfl) rfl ?_
      refine r_icmp_le (tgt := 24) h dX6_passTime_19 (by decide) (rI_iw _) (rIc rfl) (fun hc3 => ?_) (fun hc3 => ?_)
      · have hf := ite_t hc3 hf
        refine r_aload_n h dX6_passTime_24 rfl 0 rfl ?_
        refine r_dup h dX6_passTime_25 rfl ?_
        refine g_X6_39 h dX6_passTime_26 ht rC_79 ?_
        refine r_iload_n h dX6_passTime_29 rfl 1 rfl ?_
        refine r_iadd h dX6_passTime_30 ?_
        refine p_X6_39 h dX6_passTime_31 ht rC_79 (rI_iw _) ?_
        refine r_os hf (fun s4 hf => ?_)
        refine r_rS h (fun hs4 => ?_)
        refine r_aload_n h dX6_passTime_34 rfl 0 rfl ?_
        refine g_X6_39 h dX6_passTime_35 ht rC_79 ?_
        exact r_ret1 hr dX6_passTime_38 (hs4.1 _ _) hf
      · have hf := ite_f hc3 hf
        refine r_iconst h dX6_passTime_22 ?_
        exact r_ret1 hr dX6_passTime_23 (rIc rfl) hf
set_option maxRecDepth 20000 in
theorem b_Rp_roadsKnownAt_50 {l : Launch} {D : va_G} {cs : Nat → ClassId} {aS aV : Nat} {A : Nat → Prop} {K : KT} {ad : Nat → Nat} {n : Nat} {nl : Nat → Nat → Bool} {out : Int × SS} (h : w_Cl l rm_Rp_roadsKnownAt D cs aS aV A cX6_roadsKnownAt 6 RX6 "roadsKnownAt" K) (hr : w_Rt 3 cX6_roadsKnownAt 0 0 (w_Po ad n nl out) K) (hw : w_WH n nl) (ht : 79 < n) (x1 : Int) (x2 : Int) (x4 : Int) (z0 : Int) (self7 : Int → Int → SS → OO) (hself7 : ∀ (x2 : Int) (x4 : Int) (τ : SS), rJ x2 → rI x4 → self7 x2 x4 τ = some out → K ad n nl 0 0 7 [(0, .ref (ad 79)), (1, .int (vI x1)), (2, .long (vJ x2)), (4, .int (vI x4))] [] τ) (s0 : SS) (rx1 : rI x1) (rx2 : rJ x2) (rx4 : rI x4) (rz0 : rI z0) (hf : j_Rp_roadsKnownAt_50 self7 x1 x2 x4 z0 s0 = some out) : K ad n nl 0 0 50 [(0, .ref (ad 79)), (1, .int (vI x1)), (2, .long (vJ x2)), (4, .int (vI x4))] [.int (vI z0)] s0 := by
  unfold j_Rp_roadsKnownAt_50 at hf
  refine r_rS h (fun hs0 => ?_)
  refine r_istore h [(5, .int (vI z0)), (0, .ref (ad 79)), (1, .int (vI x1)), (2, .long (vJ x2)), (4, .int (vI x4))] dX6_roadsKnownAt_50 (by decide) rfl ?_
  refine r_aload_n h dX6_roadsKnownAt_52 rfl 1 rfl ?_
  have hq1 := w_ref hw ht rC_79 (by decide) (k := 4) (by decide) rf_6_4
  refine g_X6_9 h dX6_roadsKnownAt_53 ht rC_79 hq1.1 ?_
  refine r_iload h dX6_roadsKnownAt_56 4 rfl ?_
  obtain ⟨hi2, hf⟩ := oc_some hf
  refine r_iald h dX6_roadsKnownAt_58 hq1.2 rC_80 rx4 (N := 30) (by rw [rN_80]; rfl) (j := (x4).toNat) rfl hi2 ?_
  refine r_iload_n h dX6_roadsKnownAt_59 rfl 2 rfl ?_
  refine r_icmp_gt (tgt := 78) h dX6_roadsKnownAt_60 (by decide) (hs0.1 _ _) rx1 (fun hc3 => ?_) (fun hc3 => ?_)
  · have hf := ite_t hc3 hf
    refine r_iinc h [(4, .int (vI (iw (x4 + 1)))), (5, .int (vI z0)), (0, .ref (ad 79)), (1, .int (vI x1)), (2, .long (vJ x2))] dX6_roadsKnownAt_78 4 rfl (by decide) rfl ?_
    refine r_goto (tgt := 7) h dX6_roadsKnownAt_81 (by decide) ?_
    refine r_sub h [2, 3, 4, 0] rfl ?_
    exact hself7 x2 (iw (x4 + 1)) s0 rx2 (rI_iw _) hf
  · have hf := ite_f hc3 hf
    refine r_iload h dX6_roadsKnownAt_63 0 rfl ?_
    refine r_if_ne (tgt := 78) h dX6_roadsKnownAt_65 (by decide) rz0 (fun hc4 => ?_) (fun hc4 => ?_)
    · have hf := ite_f hc4 hf
      refine r_iinc h [(4, .int (vI (iw (x4 + 1)))), (5, .int (vI z0)), (0, .ref (ad 79)), (1, .int (vI x1)), (2, .long (vJ x2))] dX6_roadsKnownAt_78 4 rfl (by decide) rfl ?_
      refine r_goto (tgt := 7) h dX6_roadsKnownAt_81 (by decide) ?_
      refine r_sub h [2, 3, 4, 0] rfl ?_
      exact hself7 x2 (iw (x4 + 1)) s0 rx2 (rI_iw _) hf
    · have hf := ite_nf hc4 hf
      refine r_lload_n h dX6_roadsKnownAt_68 rfl 3 rfl ?_
      refine r_aload_n h dX6_roadsKnownAt_69 rfl 1 rfl ?_
      have hq5 := w_ref hw ht rC_79 (by decide) (k := 6) (by decide) rf_6_6
      refine g_X6_18 h dX6_roadsKnownAt_70 ht rC_79 hq5.1 ?_
      refine r_iload h dX6_roadsKnownAt_73 4 rfl ?_
      obtain ⟨hi6, hf⟩ := oc_some hf
      refine r_lald h dX6_roadsKnownAt_75 hq5.2 rC_82 rx4 (N := 30) (by rw [rN_82]; rfl) (j := (x4).toNat) rfl hi6 ?_
      refine r_land h dX6_roadsKnownAt_76 ?_
      refine r_olJ hf (rJ_yand _ _) (fun x7_ rx7_ hf => ?_)
      refine r_lstore_n h [(2, .long (vJ x7_)), (5, .int (vI z0)), (0, .ref (ad 79)), (1, .int (vI x1)), (4, .int (vI x4))] dX6_roadsKnownAt_77 rfl (by decide) rfl ?_
      refine r_iinc h [(4, .int (vI (iw (x4 + 1)))), (2, .long (vJ x7_)), (5, .int (vI z0)), (0, .ref (ad 79)), (1, .int (vI x1))] dX6_roadsKnownAt_78 4 rfl (by decide) rfl ?_
      refine r_goto (tgt := 7) h dX6_roadsKnownAt_81 (by decide) ?_
      refine r_sub h [3, 4, 1, 0] rfl ?_
      exact hself7 x7_ (iw (x4 + 1)) s0 rx7_ (rI_iw _) hf
set_option maxRecDepth 20000 in
theorem b_Rp_roadsKnownAt_49 {l : Launch} {D : va_G} {cs : Nat → ClassId} {aS aV : Nat} {A : Nat → Prop} {K : KT} {ad : Nat → Nat} {n : Nat} {nl : Nat → Nat → Bool} {out : Int × SS} (h : w_Cl l rm_Rp_roadsKnownAt D cs aS aV A cX6_roadsKnownAt 6 RX6 "roadsKnownAt" K) (hr : w_Rt 3 cX6_roadsKnownAt 0 0 (w_Po ad n nl out) K) (hw : w_WH n nl) (ht : 79 < n) (x1 : Int) (x2 : Int) (x4 : Int) (self7 : Int → Int → SS → OO) (hself7 : ∀ (x2 : Int) (x4 : Int) (τ : SS), rJ x2 → rI x4 → self7 x2 x4 τ = some out → K ad n nl 0 0 7 [(0, .ref (ad 79)), (1, .int (vI x1)), (2, .long (vJ x2)), (4, .int (vI x4))] [] τ) (s0 : SS) (rx1 : rI x1) (rx2 : rJ x2) (rx4 : rI x4) (hf : j_Rp_roadsKnownAt_49 self7 x1 x2 x4 s0 = some out) : K ad n nl 0 0 49 [(0, .ref (ad 79)), (1, .int (vI x1)), (2, .long (vJ x2)), (4, .int (vI x4))] [] s0 := by
  unfold j_Rp_roadsKnownAt_49 at hf
  refine r_rS h (fun hs0 => ?_)
  refine r_iconst h dX6_roadsKnownAt_49 ?_
  exact b_Rp_roadsKnownAt_50 h hr hw ht x1 x2 x4 0 self7 hself7 s0 rx1 rx2 rx4 (rIc rfl) hf
set_option maxRecDepth 20000 in
theorem b_Rp_roadsKnownAt_7 {l : Launch} {D : va_G} {cs : Nat → ClassId} {aS aV : Nat} {A : Nat → Prop} {K : KT} {ad : Nat → Nat} {n : Nat} {nl : Nat → Nat → Bool} {out : Int × SS} (h : w_Cl l rm_Rp_roadsKnownAt D cs aS aV A cX6_roadsKnownAt 6 RX6 "roadsKnownAt" K) (hr : w_Rt 3 cX6_roadsKnownAt 0 0 (w_Po ad n nl out) K) (hw : w_WH n nl) (ht : 79 < n) {y1 : Int} (ry1 : rI y1) : ∀ (fu : Nat) (x2 : Int) (x4 : Int) (s0 : SS), rJ x2 → rI x4 → l_Rp_roadsKnownAt_7 y1 fu x2 x4 s0 = some out → K ad n nl 0 0 7 [(0, .ref (ad 79)), (1, .int (vI y1)), (2, .long (vJ x2)), (4, .int (vI x4))] [] s0 := by
  intro fu
  induction fu with
  | zero =>
    intro x2 x4 s0 rx2 rx4 hf
    rw [l_Rp_roadsKnownAt_7] at hf
    cases hf
  | succ fu ih =>
    intro x2 x4 s0 rx2 rx4 hf
    rw [l_Rp_roadsKnownAt_7] at hf
    refine r_rS h (fun hs0 => ?_)
    refine r_iload h dX6_roadsKnownAt_7 3 rfl ?_
    refine r_aload_n h dX6_roadsKnownAt_9 rfl 0 rfl ?_
    refine g_X6_35 h dX6_roadsKnownAt_10 ht rC_79 ?_
    refine r_icmp_ge (tgt := 84) h dX6_roadsKnownAt_13 (by decide) rx4 (hs0.1 _ _) (fun hc1 => ?_) (fun hc1 => ?_)
    · have hf := ite_t hc1 hf
      refine r_lload_n h dX6_roadsKnownAt_84 rfl 2 rfl ?_
      exact r_ret3 hr dX6_roadsKnownAt_85 rx2 hf
    · have hf := ite_f hc1 hf
      refine r_iload h dX6_roadsKnownAt_16 3 rfl ?_
      refine r_bipush h dX6_roadsKnownAt_18 (by decide) ?_
      refine r_icmp_ge (tgt := 84) h dX6_roadsKnownAt_20 (by decide) rx4 (rIc rfl) (fun hc2 => ?_) (fun hc2 => ?_)
      · have hf := ite_t hc2 hf
        refine r_lload_n h dX6_roadsKnownAt_84 rfl 2 rfl ?_
        exact r_ret3 hr dX6_roadsKnownAt_85 rx2 hf
      · have hf := ite_f hc2 hf
        refine r_aload_n h dX6_roadsKnownAt_23 rfl 0 rfl ?_
        have hq3 := w_ref hw ht rC_79 (by decide) (k := 5) (by decide) rf_6_5
        refine g_X6_15 h dX6_roadsKnownAt_24 ht rC_79 hq3.1 ?_
        refine r_iload h dX6_roadsKnownAt_27 3 rfl ?_
        obtain ⟨hi4, hf⟩ := oc_some hf
        refine r_iald h dX6_roadsKnownAt_29 hq3.2 rC_81 rx4 (N := 30) (by rw [rN_81]; rfl) (j := (x4).toNat) rfl hi4 ?_
        refine r_iconst h dX6_roadsKnownAt_30 ?_
        refine r_icmp_eq (tgt := 49) h dX6_roadsKnownAt_31 (by decide) (hs0.1 _ _) (rIc rfl) (fun hc5 => ?_) (fun hc5 => ?_)
        · have hf := ite_t hc5 hf
          exact b_Rp_roadsKnownAt_49 h hr hw ht y1 x2 x4 (l_Rp_roadsKnownAt_7 y1 fu) ih s0 ry1 rx2 rx4 hf
        · have hf := ite_f hc5 hf
          refine r_aload_n h dX6_roadsKnownAt_34 rfl 0 rfl ?_
          have hq6 := w_ref hw ht rC_79 (by decide) (k := 5) (by decide) rf_6_5
          refine g_X6_15 h dX6_roadsKnownAt_35 ht rC_79 hq6.1 ?_
          refine r_iload h dX6_roadsKnownAt_38 3 rfl ?_
          obtain ⟨hi7, hf⟩ := oc_some hf
          refine r_iald h dX6_roadsKnownAt_40 hq6.2 rC_81 rx4 (N := 30) (by rw [rN_81]; rfl) (j := (x4).toNat) rfl hi7 ?_
          refine r_iload_n h dX6_roadsKnownAt_41 rfl 1 rfl ?_
          refine r_icmp_gt (tgt := 49) h dX6_roadsKnownAt_42 (by decide) (hs0.1 _ _) ry1 (fun hc8 => ?_) (fun hc8 => ?_)
          · have hf := ite_t hc8 hf
            exact b_Rp_roadsKnownAt_49 h hr hw ht y1 x2 x4 (l_Rp_roadsKnownAt_7 y1 fu) ih s0 ry1 rx2 rx4 hf
          · have hf := ite_f hc8 hf
            refine r_iconst h dX6_roadsKnownAt_45 ?_
            refine r_goto (tgt := 50) h dX6_roadsKnownAt_46 (by decide) ?_
            exact b_Rp_roadsKnownAt_50 h hr hw ht y1 x2 x4 1 (l_Rp_roadsKnownAt_7 y1 fu) ih s0 ry1 rx2 rx4 (rIc rfl) hf
set_option maxRecDepth 20000 in
theorem m_Rp_roadsKnownAt {l : Launch} {D : va_G} {cs : Nat → ClassId} {aS aV : Nat} {A : Nat → Prop} {ad : Nat → Nat} {n : Nat} {nl : Nat → Nat → Bool} {out : Int × SS} (hw : w_WH n nl) (ht : 79 < n) {a1 : Int} (ra1 : rI a1) {s0 : SS} (hs0 : rS s0) (hf : f_Rp_roadsKnownAt a1 s0 = some out) : w_MC l D cs aS aV A yX6_roadsKnownAt cX6_roadsKnownAt 6 3 rm_Rp_roadsKnownAt ad n nl [.ref (ad 79), .int (vI a1)] s0 (w_Po ad n nl out) := by
  refine w_MC_of (by decide +kernel) (by decide) hs0 (Nat.le_of_ble_eq_true rfl) (fun K h hr => ?_)
  refine r_lv (lv' := [(0, .ref (ad 79)), (1, .int (vI a1))]) rfl ?_
  unfold f_Rp_roadsKnownAt at hf
  refine r_rS h (fun hs0 => ?_)
  refine r_ldc2 (x := 1152921504606846975) h dX6_roadsKnownAt_0 (gt_in6 3 rfl rfl) rfl ?_
  refine r_lstore_n h [(2, .long (vJ 1152921504606846975)), (0, .ref (ad 79)), (1, .int (vI a1))] dX6_roadsKnownAt_3 rfl (by decide) rfl ?_
  refine r_iconst h dX6_roadsKnownAt_4 ?_
  refine r_istore h [(4, .int (vI 0)), (2, .long (vJ 1152921504606846975)), (0, .ref (ad 79)), (1, .int (vI a1))] dX6_roadsKnownAt_5 (by decide) rfl ?_
  refine r_sub h [2, 3, 1, 0] rfl ?_
  exact b_Rp_roadsKnownAt_7 h hr hw ht ra1 FU 1152921504606846975 0 s0 (rJc rfl) (rIc rfl) hf
set_option maxRecDepth 20000 in
theorem b_Rp_mostLeft_13 {l : Launch} {D : va_G} {cs : Nat → ClassId} {aS aV : Nat} {A : Nat → Prop} {K : KT} {ad : Nat → Nat} {n : Nat} {nl : Nat → Nat → Bool} {out : Int × SS} (h : w_Cl l rm_Rp_mostLeft D cs aS aV A cX6_mostLeft 7 RX6 "mostLeft" K) (hr : w_Rt 1 cX6_mostLeft 0 0 (w_Po ad n nl out) K) (hw : w_WH n nl) (ht : 79 < n) {y2 : Int} (ry2 : rJ y2) {y4 : Int} (ry4 : rI y4) : ∀ (fu : Nat) (x5 : Int) (x6 : Int) (s0 : SS), rI x5 → rI x6 → l_Rp_mostLeft_13 y2 y4 fu x5 x6 s0 = some out → K ad n nl 0 0 13 [(2, .long (vJ y2)), (4, .int (vI y4)), (5, .int (vI x5)), (6, .int (vI x6))] [] s0 := by
  intro fu
  induction fu with
  | zero =>
    intro x5 x6 s0 rx5 rx6 hf
    rw [l_Rp_mostLeft_13] at hf
    cases hf
  | succ fu ih =>
    intro x5 x6 s0 rx5 rx6 hf
    rw [l_Rp_mostLeft_13] at hf
    refine r_rS h (fun hs0 => ?_)
    refine r_iload h dX6_mostLeft_13 3 rfl ?_
    refine r_iconst h dX6_mostLeft_15 ?_
    refine r_icmp_gt (tgt := 44) h dX6_mostLeft_16 (by decide) rx6 (rIc rfl) (fun hc1 => ?_) (fun hc1 => ?_)
    · have hf := ite_t hc1 hf
      refine r_iload h dX6_mostLeft_44 2 rfl ?_
      exact r_ret1 hr dX6_mostLeft_46 rx5 hf
    · have hf := ite_f hc1 hf
      refine r_iload h dX6_mostLeft_19 2 rfl ?_
      refine r_lload_n h dX6_mostLeft_21 rfl 0 rfl ?_
      refine r_iload h dX6_mostLeft_22 1 rfl ?_
      refine r_iload h dX6_mostLeft_24 3 rfl ?_
      obtain ⟨r2, s2, hq2, hf⟩ := ob_some hf
      refine r_callS3 h [.int (vI y4), .int (vI x6)] dX6_mostLeft_26 (fun hs => m_Rp_roadsBy hw ry4 rx6 hs hq2) ml_X6_46 cv_Rp_roadsBy rfl ⟨rfl, rfl⟩ ⟨Nat.le_of_ble_eq_true rfl, Nat.le_of_ble_eq_true rfl⟩ ⟨Nat.le_of_ble_eq_true rfl, Nat.le_of_ble_eq_true rfl⟩ (Nat.le_of_ble_eq_true rfl) rfl (fun hr2 hs2 => ?_)
      refine r_land h dX6_mostLeft_29 ?_
      obtain ⟨r3, s3, hq3, hf⟩ := ob_some hf
      refine r_callS1 h [.long (vJ (yand y2 r2))] dX6_mostLeft_30 (fun hs => m_Lo_bitCount_95d88 hw (rJ_yand _ _) hs hq3) ml_X6_67 cv_Lo_bitCount_95d88 rfl ⟨rfl, rfl⟩ ⟨Nat.le_of_ble_eq_true rfl, Nat.le_of_ble_eq_true rfl⟩ ⟨Nat.le_of_ble_eq_true rfl, Nat.le_of_ble_eq_true rfl⟩ (Nat.le_of_ble_eq_true rfl) rfl (fun hr3 hs3 => ?_)
      refine r_mmax h dX6_mostLeft_33 (gt_in6 50 rfl rfl) ms_mmax.1 ms_mmax.2.1 ms_mmax.2.2 (Nat.le_of_ble_eq_true rfl) (Nat.le_of_ble_eq_true rfl) (Nat.le_of_ble_eq_true rfl) (Nat.le_of_ble_eq_true rfl) rx5 hr3 ?_
      refine r_ol hf (rI_zmax rx5 hr3) (fun x4_ rx4_ hf => ?_)
      refine r_istore h [(5, .int (vI x4_)), (2, .long (vJ y2)), (4, .int (vI y4)), (6, .int (vI x6))] dX6_mostLeft_36 (by decide) rfl ?_
      refine r_iinc h [(6, .int (vI (iw (x6 + 1)))), (5, .int (vI x4_)), (2, .long (vJ y2)), (4, .int (vI y4))] dX6_mostLeft_38 3 rfl (by decide) rfl ?_
      refine r_goto (tgt := 13) h dX6_mostLeft_41 (by decide) ?_
      refine r_sub h [2, 3, 1, 0] rfl ?_
      exact ih x4_ (iw (x6 + 1)) s3 rx4_ (rI_iw _) hf
set_option maxRecDepth 20000 in
theorem m_Rp_mostLeft {l : Launch} {D : va_G} {cs : Nat → ClassId} {aS aV : Nat} {A : Nat → Prop} {ad : Nat → Nat} {n : Nat} {nl : Nat → Nat → Bool} {out : Int × SS} (hw : w_WH n nl) (ht : 79 < n) {a1 : Int} (ra1 : rI a1) {a2 : Int} (ra2 : rJ a2) {s0 : SS} (hs0 : rS s0) (hf : f_Rp_mostLeft a1 a2 s0 = some out) : w_MC l D cs aS aV A yX6_mostLeft cX6_mostLeft 7 1 rm_Rp_mostLeft ad n nl [.ref (ad 79), .int (vI a1), .long (vJ a2)] s0 (w_Po ad n nl out) := by
  refine w_MC_of (by decide +kernel) (by decide) hs0 (Nat.le_of_ble_eq_true rfl) (fun K h hr => ?_)
  refine r_lv (lv' := [(0, .ref (ad 79)), (1, .int (vI a1)), (2, .long (vJ a2))]) rfl ?_
  unfold f_Rp_mostLeft at hf
  refine r_rS h (fun hs0 => ?_)
  refine r_aload_n h dX6_mostLeft_0 rfl 0 rfl ?_
  refine r_iload_n h dX6_mostLeft_1 rfl 1 rfl ?_
  obtain ⟨r1, s1, hq1, hf⟩ := ob_some hf
  refine r_callV1 h [.int (vI a1)] dX6_mostLeft_2 (fun hs => m_Rp_toldLength hw ht ra1 hs hq1) ml_X6_42 cv_Rp_toldLength rfl (co := 6) rfl (by decide) ht rC_79 ⟨rfl, rfl⟩ ⟨Nat.le_of_ble_eq_true rfl, Nat.le_of_ble_eq_true rfl⟩ ⟨Nat.le_of_ble_eq_true rfl, Nat.le_of_ble_eq_true rfl⟩ (Nat.le_of_ble_eq_true rfl) rfl (fun hr1 hs1 => ?_)
  refine r_istore h [(4, .int (vI r1)), (0, .ref (ad 79)), (1, .int (vI a1)), (2, .long (vJ a2))] dX6_mostLeft_5 (by decide) rfl ?_
  refine r_iconst h dX6_mostLeft_7 ?_
  refine r_istore h [(5, .int (vI 0)), (4, .int (vI r1)), (0, .ref (ad 79)), (1, .int (vI a1)), (2, .long (vJ a2))] dX6_mostLeft_8 (by decide) rfl ?_
  refine r_iconst h dX6_mostLeft_10 ?_
  refine r_istore h [(6, .int (vI 0)), (5, .int (vI 0)), (4, .int (vI r1)), (0, .ref (ad 79)), (1, .int (vI a1)), (2, .long (vJ a2))] dX6_mostLeft_11 (by decide) rfl ?_
  refine r_sub h [5, 2, 1, 0] rfl ?_
  exact b_Rp_mostLeft_13 h hr hw ht ra2 hr1 FU 0 0 s1 (rIc rfl) (rIc rfl) hf
set_option maxRecDepth 20000 in
theorem b_Rp_findQuestion_65 {l : Launch} {D : va_G} {cs : Nat → ClassId} {aS aV : Nat} {A : Nat → Prop} {K : KT} {ad : Nat → Nat} {n : Nat} {nl : Nat → Nat → Bool} {out : Int × SS} (h : w_Cl l rm_Rp_findQuestion D cs aS aV A cX6_findQuestion 9 RX6 "findQuestion" K) (hr : w_Rt 1 cX6_findQuestion 0 0 (w_Po ad n nl out) K) (hw : w_WH n nl) (ht : 79 < n) (x1 : Int) (x3 : Int) (x5 : Int) (x6 : Int) (x7 : Int) (z0 : Int) (self33 : Int → Int → Int → SS → OO) (hself33 : ∀ (x5 : Int) (x6 : Int) (x7 : Int) (τ : SS), rI x5 → rI x6 → rI x7 → self33 x5 x6 x7 τ = some out → K ad n nl 0 0 33 [(0, .ref (ad 79)), (1, .int (vI x1)), (3, .long (vJ x3)), (5, .int (vI x5)), (6, .int (vI x6)), (7, .int (vI x7))] [] τ) (s0 : SS) (rx1 : rI x1) (rx3 : rJ x3) (rx5 : rI x5) (rx6 : rI x6) (rx7 : rI x7) (rz0 : rI z0) (hf : j_Rp_findQuestion_65 self33 x1 x3 x5 x6 x7 z0 s0 = some out) : K ad n nl 0 0 65 [(0, .ref (ad 79)), (1, .int (vI x1)), (3, .long (vJ x3)), (5, .int (vI x5)), (6, .int (vI x6)), (7, .int (vI x7))] [.int (vI z0)] s0 := by
  unfold j_Rp_findQuestion_65 at hf
  refine r_rS h (fun hs0 => ?_)
  refine r_istore h [(8, .int (vI z0)), (0, .ref (ad 79)), (1, .int (vI x1)), (3, .long (vJ x3)), (5, .int (vI x5)), (6, .int (vI x6)), (7, .int (vI x7))] dX6_findQuestion_65 (by decide) rfl ?_
  refine r_iload h dX6_findQuestion_67 0 rfl ?_
  refine r_iload h dX6_findQuestion_69 5 rfl ?_
  refine r_icmp_ge (tgt := 82) h dX6_findQuestion_71 (by decide) rz0 rx6 (fun hc1 => ?_) (fun hc1 => ?_)
  · have hf := ite_t hc1 hf
    refine r_iinc h [(7, .int (vI (iw (x7 + 1)))), (8, .int (vI z0)), (0, .ref (ad 79)), (1, .int (vI x1)), (3, .long (vJ x3)), (5, .int (vI x5)), (6, .int (vI x6))] dX6_findQuestion_82 6 rfl (by decide) rfl ?_
    refine r_goto (tgt := 33) h dX6_findQuestion_85 (by decide) ?_
    refine r_sub h [2, 3, 4, 5, 6, 0] rfl ?_
    exact hself33 x5 x6 (iw (x7 + 1)) s0 rx5 rx6 (rI_iw _) hf
  · have hf := ite_f hc1 hf
    refine r_iload h dX6_findQuestion_74 6 rfl ?_
    refine r_istore h [(5, .int (vI x7)), (8, .int (vI z0)), (0, .ref (ad 79)), (1, .int (vI x1)), (3, .long (vJ x3)), (6, .int (vI x6)), (7, .int (vI x7))] dX6_findQuestion_76 (by decide) rfl ?_
    refine r_iload h dX6_findQuestion_78 1 rfl ?_
    refine r_istore h [(6, .int (vI z0)), (5, .int (vI x7)), (8, .int (vI z0)), (0, .ref (ad 79)), (1, .int (vI x1)), (3, .long (vJ x3)), (7, .int (vI x7))] dX6_findQuestion_80 (by decide) rfl ?_
    refine r_iinc h [(7, .int (vI (iw (x7 + 1)))), (6, .int (vI z0)), (5, .int (vI x7)), (8, .int (vI z0)), (0, .ref (ad 79)), (1, .int (vI x1)), (3, .long (vJ x3))] dX6_findQuestion_82 6 rfl (by decide) rfl ?_
    refine r_goto (tgt := 33) h dX6_findQuestion_85 (by decide) ?_
    refine r_sub h [4, 5, 6, 2, 1, 0] rfl ?_
    exact hself33 x7 z0 (iw (x7 + 1)) s0 rx7 rz0 (rI_iw _) hf
set_option maxRecDepth 20000 in
theorem b_Rp_findQuestion_33 {l : Launch} {D : va_G} {cs : Nat → ClassId} {aS aV : Nat} {A : Nat → Prop} {K : KT} {ad : Nat → Nat} {n : Nat} {nl : Nat → Nat → Bool} {out : Int × SS} (h : w_Cl l rm_Rp_findQuestion D cs aS aV A cX6_findQuestion 9 RX6 "findQuestion" K) (hr : w_Rt 1 cX6_findQuestion 0 0 (w_Po ad n nl out) K) (hw : w_WH n nl) (ht : 79 < n) {y1 : Int} (ry1 : rI y1) {y3 : Int} (ry3 : rJ y3) : ∀ (fu : Nat) (x5 : Int) (x6 : Int) (x7 : Int) (s0 : SS), rI x5 → rI x6 → rI x7 → l_Rp_findQuestion_33 y1 y3 fu x5 x6 x7 s0 = some out → K ad n nl 0 0 33 [(0, .ref (ad 79)), (1, .int (vI y1)), (3, .long (vJ y3)), (5, .int (vI x5)), (6, .int (vI x6)), (7, .int (vI x7))] [] s0 := by
  intro fu
  induction fu with
  | zero =>
    intro x5 x6 x7 s0 rx5 rx6 rx7 hf
    rw [l_Rp_findQuestion_33] at hf
    cases hf
  | succ fu ih =>
    intro x5 x6 x7 s0 rx5 rx6 rx7 hf
    rw [l_Rp_findQuestion_33] at hf
    refine r_rS h (fun hs0 => ?_)
    refine r_iload h dX6_findQuestion_33 5 rfl ?_
    refine r_sipush h dX6_findQuestion_35 (by decide) ?_
    refine r_icmp_ge (tgt := 88) h dX6_findQuestion_38 (by decide) rx7 (rIc rfl) (fun hc1 => ?_) (fun hc1 => ?_)
    · have hf := ite_t hc1 hf
      refine r_iload h dX6_findQuestion_88 3 rfl ?_
      refine r_iconst h dX6_findQuestion_90 ?_
      refine r_icmp_ne (tgt := 96) h dX6_findQuestion_91 (by decide) rx5 (rIc rfl) (fun hc2 => ?_) (fun hc2 => ?_)
      · have hf := ite_f hc2 hf
        refine r_iload_n h dX6_findQuestion_96 rfl 1 rfl ?_
        refine r_if_ne (tgt := 105) h dX6_findQuestion_97 (by decide) ry1 (fun hc3 => ?_) (fun hc3 => ?_)
        · have hf := ite_f hc3 hf
          refine r_iload h dX6_findQuestion_105 4 rfl ?_
          exact r_ret1 hr dX6_findQuestion_107 rx6 hf
        · have hf := ite_nf hc3 hf
          refine r_iload h dX6_findQuestion_100 3 rfl ?_
          refine r_goto (tgt := 107) h dX6_findQuestion_102 (by decide) ?_
          exact r_ret1 hr dX6_findQuestion_107 rx5 hf
      · have hf := ite_nf hc2 hf
        refine r_iconst h dX6_findQuestion_94 ?_
        exact r_ret1 hr dX6_findQuestion_95 (rIc rfl) hf
    · have hf := ite_f hc1 hf
      refine r_aload_n h dX6_findQuestion_41 rfl 0 rfl ?_
      have hq4 := w_ref hw ht rC_79 (by decide) (k := 0) (by decide) rf_6_0
      refine g_X6_22 h dX6_findQuestion_42 ht rC_79 hq4.1 ?_
      refine r_iload h dX6_findQuestion_45 5 rfl ?_
      obtain ⟨r5, s5, hq5, hf⟩ := ob_some hf
      refine r_callV2 h [.int (vI x7)] dX6_findQuestion_47 (fun hs => m_La_isCouple hw hq4.2 rC_2 rx7 hs hq5) ml_X6_57 cv_La_isCouple rfl (co := 4) rfl (by decide) hq4.2 rC_2 ⟨rfl, rfl⟩ ⟨Nat.le_of_ble_eq_true rfl, Nat.le_of_ble_eq_true rfl⟩ ⟨Nat.le_of_ble_eq_true rfl, Nat.le_of_ble_eq_true rfl⟩ (Nat.le_of_ble_eq_true rfl) rfl (fun hr5 hs5 => ?_)
      refine r_if_eq (tgt := 63) h dX6_findQuestion_50 (by decide) (rI_b hr5) (fun hc6 => ?_) (fun hc6 => ?_)
      · have hf := ite_t hc6 hf
        refine r_iload h dX6_findQuestion_63 4 rfl ?_
        exact b_Rp_findQuestion_65 h hr hw ht y1 y3 x5 x6 x7 x6 (l_Rp_findQuestion_33 y1 y3 fu) ih s5 ry1 ry3 rx5 rx6 rx7 rx6 hf
      · have hf := ite_f hc6 hf
        refine r_aload_n h dX6_findQuestion_53 rfl 0 rfl ?_
        refine r_iload h dX6_findQuestion_54 5 rfl ?_
        refine r_lload_n h dX6_findQuestion_56 rfl 2 rfl ?_
        obtain ⟨r7, s7, hq7, hf⟩ := ob_some hf
        refine r_callV1 h [.int (vI x7), .long (vJ y3)] dX6_findQuestion_57 (fun hs => m_Rp_mostLeft hw ht rx7 ry3 hs hq7) ml_X6_63 cv_Rp_mostLeft rfl (co := 6) rfl (by decide) ht rC_79 ⟨rfl, rfl⟩ ⟨Nat.le_of_ble_eq_true rfl, Nat.le_of_ble_eq_true rfl⟩ ⟨Nat.le_of_ble_eq_true rfl, Nat.le_of_ble_eq_true rfl⟩ (Nat.le_of_ble_eq_true rfl) rfl (fun hr7 hs7 => ?_)
        refine r_goto (tgt := 65) h dX6_findQuestion_60 (by decide) ?_
        exact b_Rp_findQuestion_65 h hr hw ht y1 y3 x5 x6 x7 r7 (l_Rp_findQuestion_33 y1 y3 fu) ih s7 ry1 ry3 rx5 rx6 rx7 hr7 hf
set_option maxRecDepth 20000 in
theorem m_Rp_findQuestion {l : Launch} {D : va_G} {cs : Nat → ClassId} {aS aV : Nat} {A : Nat → Prop} {ad : Nat → Nat} {n : Nat} {nl : Nat → Nat → Bool} {out : Int × SS} (hw : w_WH n nl) (ht : 79 < n) {a1 : Int} (ra1 : rI a1) {a2 : Int} (ra2 : rI a2) {s0 : SS} (hs0 : rS s0) (hf : f_Rp_findQuestion a1 a2 s0 = some out) : w_MC l D cs aS aV A yX6_findQuestion cX6_findQuestion 9 1 rm_Rp_findQuestion ad n nl [.ref (ad 79), .int (vI a1), .int (vI a2)] s0 (w_Po ad n nl out) := by
  refine w_MC_of (by decide +kernel) (by decide) hs0 (Nat.le_of_ble_eq_true rfl) (fun K h hr => ?_)
  refine r_lv (lv' := [(0, .ref (ad 79)), (1, .int (vI a1)), (2, .int (vI a2))]) rfl ?_
  unfold f_Rp_findQuestion at hf
  refine r_rS h (fun hs0 => ?_)
  refine r_aload_n h dX6_findQuestion_0 rfl 0 rfl ?_
  refine r_iload_n h dX6_findQuestion_1 rfl 2 rfl ?_
  obtain ⟨r1, s1, hq1, hf⟩ := ob_some hf
  refine r_callV3 h [.int (vI a2)] dX6_findQuestion_2 (fun hs => m_Rp_roadsKnownAt hw ht ra2 hs hq1) ml_X6_53 cv_Rp_roadsKnownAt rfl (co := 6) rfl (by decide) ht rC_79 ⟨rfl, rfl⟩ ⟨Nat.le_of_ble_eq_true rfl, Nat.le_of_ble_eq_true rfl⟩ ⟨Nat.le_of_ble_eq_true rfl, Nat.le_of_ble_eq_true rfl⟩ (Nat.le_of_ble_eq_true rfl) rfl (fun hr1 hs1 => ?_)
  refine r_lstore_n h [(3, .long (vJ r1)), (0, .ref (ad 79)), (1, .int (vI a1)), (2, .int (vI a2))] dX6_findQuestion_5 rfl (by decide) rfl ?_
  refine r_iload_n h dX6_findQuestion_6 rfl 2 rfl ?_
  refine r_if_lt (tgt := 21) h dX6_findQuestion_7 (by decide) ra1 (fun hc2 => ?_) (fun hc2 => ?_)
  · have hf := ite_t hc2 hf
    refine r_iconst h dX6_findQuestion_21 ?_
    exact r_ret1 hr dX6_findQuestion_22 (rIc rfl) hf
  · have hf := ite_f hc2 hf
    refine r_iload_n h dX6_findQuestion_10 rfl 2 rfl ?_
    refine r_iconst h dX6_findQuestion_11 ?_
    refine r_icmp_gt (tgt := 21) h dX6_findQuestion_12 (by decide) ra1 (rIc rfl) (fun hc3 => ?_) (fun hc3 => ?_)
    · have hf := ite_t hc3 hf
      refine r_iconst h dX6_findQuestion_21 ?_
      exact r_ret1 hr dX6_findQuestion_22 (rIc rfl) hf
    · have hf := ite_f hc3 hf
      refine r_lload_n h dX6_findQuestion_15 rfl 0 rfl ?_
      refine r_lconst (x := 0) h dX6_findQuestion_16 (by decide) ?_
      refine r_lcmp h dX6_findQuestion_17 hr1 (rJc rfl) ?_
      refine r_if_ne (tgt := 23) h dX6_findQuestion_18 (by decide) (rI_ycmp _ _) (fun hc4 => ?_) (fun hc4 => ?_)
      · have hf := ite_f hc4 hf
        refine r_iconst h dX6_findQuestion_23 ?_
        refine r_istore h [(5, .int (vI (-1))), (3, .long (vJ r1)), (0, .ref (ad 79)), (1, .int (vI a1)), (2, .int (vI a2))] dX6_findQuestion_24 (by decide) rfl ?_
        refine r_bipush h dX6_findQuestion_26 (by decide) ?_
        refine r_istore h [(6, .int (vI 61)), (5, .int (vI (-1))), (3, .long (vJ r1)), (0, .ref (ad 79)), (1, .int (vI a1)), (2, .int (vI a2))] dX6_findQuestion_28 (by decide) rfl ?_
        refine r_iconst h dX6_findQuestion_30 ?_
        refine r_istore h [(7, .int (vI 0)), (6, .int (vI 61)), (5, .int (vI (-1))), (3, .long (vJ r1)), (0, .ref (ad 79)), (1, .int (vI a1)), (2, .int (vI a2))] dX6_findQuestion_31 (by decide) rfl ?_
        refine r_sub h [4, 5, 3, 2, 1, 0] rfl ?_
        exact b_Rp_findQuestion_33 h hr hw ht ra1 hr1 FU (-1) 61 0 s1 (rIc rfl) (rIc rfl) (rIc rfl) hf
      · have hf := ite_nf hc4 hf
        refine r_iconst h dX6_findQuestion_21 ?_
        exact r_ret1 hr dX6_findQuestion_22 (rIc rfl) hf
set_option maxRecDepth 20000 in
theorem m_Ea_slot {l : Launch} {D : va_G} {cs : Nat → ClassId} {aS aV : Nat} {A : Nat → Prop} {ad : Nat → Nat} {n : Nat} {nl : Nat → Nat → Bool} {out : Int × SS} (hw : w_WH n nl) (ht : 46 < n) {s0 : SS} (hs0 : rS s0) (hf : f_Ea_slot s0 = some out) : w_MC l D cs aS aV A yX0_slot cX0_slot 1 1 rm_Ea_slot ad n nl [.ref (ad 46)] s0 (w_Po ad n nl out) := by
  refine w_MC_of (by decide +kernel) (by decide) hs0 (Nat.le_of_ble_eq_true rfl) (fun K h hr => ?_)
  refine r_lv (lv' := [(0, .ref (ad 46))]) rfl ?_
  unfold f_Ea_slot at hf
  refine r_rS h (fun hs0 => ?_)
  refine r_aload_n h dX0_slot_0 rfl 0 rfl ?_
  refine g_X0_133 h dX0_slot_1 ht rC_46 ?_
  refine r_aload_n h dX0_slot_4 rfl 0 rfl ?_
  refine g_X0_113 h dX0_slot_5 ht rC_46 ?_
  refine r_iadd h dX0_slot_8 ?_
  refine r_bipush h dX0_slot_9 (by decide) ?_
  refine r_irem h dX0_slot_11 (rI_iw _) (rIc rfl) (by decide) ?_
  refine r_bipush h dX0_slot_12 (by decide) ?_
  refine r_imul h dX0_slot_14 ?_
  exact r_ret1 hr dX0_slot_15 (rI_iw _) hf
set_option maxRecDepth 20000 in
theorem b_Ea_put_73 {l : Launch} {D : va_G} {cs : Nat → ClassId} {aS aV : Nat} {A : Nat → Prop} {K : KT} {ad : Nat → Nat} {n : Nat} {nl : Nat → Nat → Bool} {out : Int × SS} (h : w_Cl l rm_Ea_put D cs aS aV A cX0_put 4 RX0 "put" K) (hr : w_Rt 0 cX0_put 0 0 (w_Po ad n nl out) K) (hw : w_WH n nl) (ht : 46 < n) {u1 : Nat} (pu1 : u1 < n) (pc1 : rC u1 = 14) (x3 : Int) (z1 : Int) (z2 : Int) (s0 : SS) (rx3 : rI x3) (rz1 : rI z1) (rz2 : rI z2) (hf : j_Ea_put_73 u1 x3 z1 z2 s0 = some out) : K ad n nl 0 0 73 [(0, .ref (ad 46)), (1, .ref (ad u1)), (3, .int (vI x3))] [.int (vI z2), .int (vI z1), .ref (ad u1)] s0 := by
  unfold j_Ea_put_73 at hf
  refine r_rS h (fun hs0 => ?_)
  obtain ⟨hi1, hf⟩ := oc_some hf
  refine r_iast h dX0_put_73 pu1 pc1 rz1 rfl (j := (z1).toNat) rfl hi1 rz2 ?_
  refine r_os hf (fun s2 hf => ?_)
  refine r_rS h (fun hs2 => ?_)
  refine r_aload_n h dX0_put_74 rfl 1 rfl ?_
  refine r_iload_n h dX0_put_75 rfl 2 rfl ?_
  refine r_iconst h dX0_put_76 ?_
  refine r_iadd h dX0_put_77 ?_
  refine r_aload_n h dX0_put_78 rfl 0 rfl ?_
  refine g_X0_58 h dX0_put_79 ht rC_46 ?_
  obtain ⟨hi3, hf⟩ := oc_some hf
  refine r_iast h dX0_put_82 pu1 pc1 (rI_iw _) rfl (j := (iw (x3 + 2)).toNat) rfl hi3 (hs2.1 _ _) ?_
  refine r_os hf (fun s4 hf => ?_)
  refine r_rS h (fun hs4 => ?_)
  refine r_aload_n h dX0_put_83 rfl 1 rfl ?_
  refine r_iload_n h dX0_put_84 rfl 2 rfl ?_
  refine r_iconst h dX0_put_85 ?_
  refine r_iadd h dX0_put_86 ?_
  refine r_aload_n h dX0_put_87 rfl 0 rfl ?_
  refine g_X0_61 h dX0_put_88 ht rC_46 ?_
  obtain ⟨hi5, hf⟩ := oc_some hf
  refine r_iast h dX0_put_91 pu1 pc1 (rI_iw _) rfl (j := (iw (x3 + 3)).toNat) rfl hi5 (hs4.1 _ _) ?_
  refine r_os hf (fun s6 hf => ?_)
  refine r_rS h (fun hs6 => ?_)
  refine r_aload_n h dX0_put_92 rfl 1 rfl ?_
  refine r_iload_n h dX0_put_93 rfl 2 rfl ?_
  refine r_iconst h dX0_put_94 ?_
  refine r_iadd h dX0_put_95 ?_
  refine r_aload_n h dX0_put_96 rfl 0 rfl ?_
  refine g_X0_64 h dX0_put_97 ht rC_46 ?_
  obtain ⟨hi7, hf⟩ := oc_some hf
  refine r_iast h dX0_put_100 pu1 pc1 (rI_iw _) rfl (j := (iw (x3 + 4)).toNat) rfl hi7 (hs6.1 _ _) ?_
  refine r_os hf (fun s8 hf => ?_)
  refine r_rS h (fun hs8 => ?_)
  refine r_aload_n h dX0_put_101 rfl 0 rfl ?_
  have hq9 := w_ref hw ht rC_46 (by decide) (k := 3) (by decide) rf_0_3
  refine g_X0_34 h dX0_put_102 ht rC_46 hq9.1 ?_
  refine r_aload_n h dX0_put_105 rfl 1 rfl ?_
  refine r_iload_n h dX0_put_106 rfl 2 rfl ?_
  refine r_iconst h dX0_put_107 ?_
  refine r_iadd h dX0_put_108 ?_
  obtain ⟨r10, s10, hq10, hf⟩ := ob_some hf
  refine r_callV0 h [.ref (ad u1), .int (vI (iw (x3 + 5)))] dX0_put_109 (fun hs => m_Ta_put hw hq9.2 rC_51 pu1 pc1 (rI_iw _) hs hq10) ml_X0_136 cv_Ta_put rfl (co := 9) rfl (by decide) hq9.2 rC_51 ⟨rfl, rfl⟩ ⟨Nat.le_of_ble_eq_true rfl, Nat.le_of_ble_eq_true rfl⟩ ⟨Nat.le_of_ble_eq_true rfl, Nat.le_of_ble_eq_true rfl⟩ (Nat.le_of_ble_eq_true rfl) rfl (fun hr10 hs10 => ?_)
  exact r_ret0 (x := 0) hr dX0_put_112 hf
set_option maxRecDepth 20000 in
theorem b_Ea_put_16 {l : Launch} {D : va_G} {cs : Nat → ClassId} {aS aV : Nat} {A : Nat → Prop} {K : KT} {ad : Nat → Nat} {n : Nat} {nl : Nat → Nat → Bool} {out : Int × SS} (h : w_Cl l rm_Ea_put D cs aS aV A cX0_put 4 RX0 "put" K) (hr : w_Rt 0 cX0_put 0 0 (w_Po ad n nl out) K) (hw : w_WH n nl) (ht : 46 < n) {u1 : Nat} (pu1 : u1 < n) (pc1 : rC u1 = 14) {y2 : Int} (ry2 : rI y2) : ∀ (fu : Nat) (x3 : Int) (s0 : SS), rI x3 → l_Ea_put_16 u1 y2 fu x3 s0 = some out → K ad n nl 0 0 16 [(0, .ref (ad 46)), (1, .ref (ad u1)), (2, .int (vI y2)), (3, .int (vI x3))] [] s0 := by
  intro fu
  induction fu with
  | zero =>
    intro x3 s0 rx3 hf
    rw [l_Ea_put_16] at hf
    cases hf
  | succ fu ih =>
    intro x3 s0 rx3 hf
    rw [l_Ea_put_16] at hf
    refine r_rS h (fun hs0 => ?_)
    refine r_iload_n h dX0_put_16 rfl 3 rfl ?_
    refine r_aload_n h dX0_put_17 rfl 0 rfl ?_
    have hq1 := w_ref hw ht rC_46 (by decide) (k := 1) (by decide) rf_0_1
    refine g_X0_9 h dX0_put_18 ht rC_46 hq1.1 ?_
    refine r_alen (N := 12) h dX0_put_21 hq1.2 rC_47 (Or.inr (Or.inl rfl)) (by rw [rN_47]; rfl) ?_
    refine r_icmp_ge (tgt := 42) h dX0_put_22 (by decide) rx3 (rIc rfl) (fun hc2 => ?_) (fun hc2 => ?_)
    · have hf := ite_t hc2 hf
      refine r_iload_n h dX0_put_42 rfl 2 rfl ?_
      refine r_aload_n h dX0_put_43 rfl 0 rfl ?_
      have hq3 := w_ref hw ht rC_46 (by decide) (k := 1) (by decide) rf_0_1
      refine g_X0_9 h dX0_put_44 ht rC_46 hq3.1 ?_
      refine r_alen (N := 12) h dX0_put_47 hq3.2 rC_47 (Or.inr (Or.inl rfl)) (by rw [rN_47]; rfl) ?_
      refine r_iadd h dX0_put_48 ?_
      refine r_ol hf (rI_iw _) (fun x4_ rx4_ hf => ?_)
      refine r_istore_n h [(3, .int (vI x4_)), (0, .ref (ad 46)), (1, .ref (ad u1)), (2, .int (vI y2))] dX0_put_49 rfl (by decide) rfl ?_
      refine r_aload_n h dX0_put_50 rfl 2 rfl ?_
      refine r_iload_n h dX0_put_51 rfl 0 rfl ?_
      refine r_aload_n h dX0_put_52 rfl 1 rfl ?_
      refine g_X0_51 h dX0_put_53 ht rC_46 ?_
      obtain ⟨hi5, hf⟩ := oc_some hf
      refine r_iast h dX0_put_56 pu1 pc1 rx4_ rfl (j := (x4_).toNat) rfl hi5 (hs0.1 _ _) ?_
      refine r_os hf (fun s6 hf => ?_)
      refine r_rS h (fun hs6 => ?_)
      refine r_aload_n h dX0_put_57 rfl 2 rfl ?_
      refine r_iload_n h dX0_put_58 rfl 0 rfl ?_
      refine r_iconst h dX0_put_59 ?_
      refine r_iadd h dX0_put_60 ?_
      refine r_aload_n h dX0_put_61 rfl 1 rfl ?_
      refine g_X0_54 h dX0_put_62 ht rC_46 ?_
      refine r_if_eq (tgt := 72) h dX0_put_65 (by decide) (hs6.1 _ _) (fun hc7 => ?_) (fun hc7 => ?_)
      · have hf := ite_t hc7 hf
        refine r_iconst h dX0_put_72 ?_
        refine r_sub h [1, 2, 0] rfl ?_
        exact b_Ea_put_73 h hr hw ht pu1 pc1 x4_ (iw (x4_ + 1)) 0 s6 rx4_ (rI_iw _) (rIc rfl) hf
      · have hf := ite_f hc7 hf
        refine r_iconst h dX0_put_68 ?_
        refine r_goto (tgt := 73) h dX0_put_69 (by decide) ?_
        refine r_sub h [1, 2, 0] rfl ?_
        exact b_Ea_put_73 h hr hw ht pu1 pc1 x4_ (iw (x4_ + 1)) 1 s6 rx4_ (rI_iw _) (rIc rfl) hf
    · have hf := ite_f hc2 hf
      refine r_aload_n h dX0_put_25 rfl 1 rfl ?_
      refine r_iload_n h dX0_put_26 rfl 2 rfl ?_
      refine r_iload_n h dX0_put_27 rfl 3 rfl ?_
      refine r_iadd h dX0_put_28 ?_
      refine r_aload_n h dX0_put_29 rfl 0 rfl ?_
      have hq8 := w_ref hw ht rC_46 (by decide) (k := 1) (by decide) rf_0_1
      refine g_X0_9 h dX0_put_30 ht rC_46 hq8.1 ?_
      refine r_iload_n h dX0_put_33 rfl 3 rfl ?_
      obtain ⟨hi9, hf⟩ := oc_some hf
      refine r_iald h dX0_put_34 hq8.2 rC_47 rx3 (N := 12) (by rw [rN_47]; rfl) (j := (x3).toNat) rfl hi9 ?_
      obtain ⟨hi10, hf⟩ := oc_some hf
      refine r_iast h dX0_put_35 pu1 pc1 (rI_iw _) rfl (j := (iw (y2 + x3)).toNat) rfl hi10 (hs0.1 _ _) ?_
      refine r_os hf (fun s11 hf => ?_)
      refine r_rS h (fun hs11 => ?_)
      refine r_iinc h [(3, .int (vI (iw (x3 + 1)))), (0, .ref (ad 46)), (1, .ref (ad u1)), (2, .int (vI y2))] dX0_put_36 3 rfl (by decide) rfl ?_
      refine r_goto (tgt := 16) h dX0_put_39 (by decide) ?_
      refine r_sub h [1, 2, 3, 0] rfl ?_
      exact ih (iw (x3 + 1)) s11 (rI_iw _) hf
set_option maxRecDepth 20000 in
theorem m_Ea_put {l : Launch} {D : va_G} {cs : Nat → ClassId} {aS aV : Nat} {A : Nat → Prop} {ad : Nat → Nat} {n : Nat} {nl : Nat → Nat → Bool} {out : Int × SS} (hw : w_WH n nl) (ht : 46 < n) {u1 : Nat} (pu1 : u1 < n) (pc1 : rC u1 = 14) {a2 : Int} (ra2 : rI a2) {s0 : SS} (hs0 : rS s0) (hf : f_Ea_put u1 a2 s0 = some out) : w_MC l D cs aS aV A yX0_put cX0_put 4 0 rm_Ea_put ad n nl [.ref (ad 46), .ref (ad u1), .int (vI a2)] s0 (w_Po ad n nl out) := by
  refine w_MC_of (by decide +kernel) (by decide) hs0 (Nat.le_of_ble_eq_true rfl) (fun K h hr => ?_)
  refine r_lv (lv' := [(0, .ref (ad 46)), (1, .ref (ad u1)), (2, .int (vI a2))]) rfl ?_
  unfold f_Ea_put at hf
  refine r_rS h (fun hs0 => ?_)
  refine r_iload_n h dX0_put_0 rfl 2 rfl ?_
  refine r_if_lt (tgt := 13) h dX0_put_1 (by decide) ra2 (fun hc1 => ?_) (fun hc1 => ?_)
  · have hf := ite_t hc1 hf
    exact r_ret0 (x := 0) hr dX0_put_13 hf
  · have hf := ite_f hc1 hf
    refine r_iload_n h dX0_put_4 rfl 2 rfl ?_
    refine r_aload_n h dX0_put_5 rfl 1 rfl ?_
    refine r_alen h dX0_put_6 pu1 pc1 (Or.inr (Or.inl rfl)) rfl ?_
    refine r_bipush h dX0_put_7 (by decide) ?_
    refine r_isub h dX0_put_9 ?_
    refine r_icmp_le (tgt := 14) h dX0_put_10 (by decide) ra2 (rI_iw _) (fun hc2 => ?_) (fun hc2 => ?_)
    · have hf := ite_t hc2 hf
      refine r_iconst h dX0_put_14 ?_
      refine r_istore_n h [(3, .int (vI 0)), (0, .ref (ad 46)), (1, .ref (ad u1)), (2, .int (vI a2))] dX0_put_15 rfl (by decide) rfl ?_
      refine r_sub h [1, 2, 3, 0] rfl ?_
      exact b_Ea_put_16 h hr hw ht pu1 pc1 ra2 FU 0 s0 (rIc rfl) hf
    · have hf := ite_f hc2 hf
      exact r_ret0 (x := 0) hr dX0_put_13 hf
set_option maxRecDepth 20000 in
theorem m_Ea_forgetActs {l : Launch} {D : va_G} {cs : Nat → ClassId} {aS aV : Nat} {A : Nat → Prop} {ad : Nat → Nat} {n : Nat} {nl : Nat → Nat → Bool} {out : Int × SS} (hw : w_WH n nl) (ht : 46 < n) {s0 : SS} (hs0 : rS s0) (hf : f_Ea_forgetActs s0 = some out) : w_MC l D cs aS aV A yX0_forgetActs cX0_forgetActs 1 0 rm_Ea_forgetActs ad n nl [.ref (ad 46)] s0 (w_Po ad n nl out) := by
  refine w_MC_of (by decide +kernel) (by decide) hs0 (Nat.le_of_ble_eq_true rfl) (fun K h hr => ?_)
  refine r_lv (lv' := [(0, .ref (ad 46))]) rfl ?_
  unfold f_Ea_forgetActs at hf
  refine r_rS h (fun hs0 => ?_)
  refine r_aload_n h dX0_forgetActs_0 rfl 0 rfl ?_
  refine r_iconst h dX0_forgetActs_1 ?_
  refine p_X0_113 h dX0_forgetActs_2 ht rC_46 (rIc rfl) ?_
  refine r_os hf (fun s1 hf => ?_)
  refine r_rS h (fun hs1 => ?_)
  refine r_aload_n h dX0_forgetActs_5 rfl 0 rfl ?_
  refine r_iconst h dX0_forgetActs_6 ?_
  refine p_X0_116 h dX0_forgetActs_7 ht rC_46 (rIc rfl) ?_
  refine r_os hf (fun s2 hf => ?_)
  refine r_rS h (fun hs2 => ?_)
  refine r_aload_n h dX0_forgetActs_10 rfl 0 rfl ?_
  refine r_aload_n h dX0_forgetActs_11 rfl 0 rfl ?_
  have hq3 := w_ref hw ht rC_46 (by decide) (k := 8) (by decide) rf_0_8
  refine g_X0_15 h dX0_forgetActs_12 ht rC_46 hq3.1 ?_
  refine r_aload_n h dX0_forgetActs_15 rfl 0 rfl ?_
  obtain ⟨r4, s4, hq4, hf⟩ := ob_some hf
  refine r_callV1 h [] dX0_forgetActs_16 (fun hs => m_Ea_slot hw ht hs hq4) ml_X0_119 cv_Ea_slot rfl (co := 0) rfl (by decide) ht rC_46 ⟨rfl, rfl⟩ ⟨Nat.le_of_ble_eq_true rfl, Nat.le_of_ble_eq_true rfl⟩ ⟨Nat.le_of_ble_eq_true rfl, Nat.le_of_ble_eq_true rfl⟩ (Nat.le_of_ble_eq_true rfl) rfl (fun hr4 hs4 => ?_)
  obtain ⟨r5, s5, hq5, hf⟩ := ob_some hf
  refine r_callV0 h [.ref (ad 48), .int (vI r4)] dX0_forgetActs_19 (fun hs => m_Ea_put hw ht hq3.2 rC_48 hr4 hs hq5) ml_X0_127 cv_Ea_put rfl (co := 0) rfl (by decide) ht rC_46 ⟨rfl, rfl⟩ ⟨Nat.le_of_ble_eq_true rfl, Nat.le_of_ble_eq_true rfl⟩ ⟨Nat.le_of_ble_eq_true rfl, Nat.le_of_ble_eq_true rfl⟩ (Nat.le_of_ble_eq_true rfl) rfl (fun hr5 hs5 => ?_)
  exact r_ret0 (x := 0) hr dX0_forgetActs_22 hf
set_option maxRecDepth 20000 in
theorem b_Ea_beginAnew_42 {l : Launch} {D : va_G} {cs : Nat → ClassId} {aS aV : Nat} {A : Nat → Prop} {K : KT} {ad : Nat → Nat} {n : Nat} {nl : Nat → Nat → Bool} {out : Int × SS} (h : w_Cl l rm_Ea_beginAnew D cs aS aV A cX0_beginAnew 2 RX0 "beginAnew" K) (hr : w_Rt 0 cX0_beginAnew 0 0 (w_Po ad n nl out) K) (hw : w_WH n nl) (ht : 46 < n) (x1 : Int) (z1 : Int) (z2 : Int) (self2 : Int → SS → OO) (hself2 : ∀ (x1 : Int) (τ : SS), rI x1 → self2 x1 τ = some out → K ad n nl 0 0 2 [(0, .ref (ad 46)), (1, .int (vI x1))] [] τ) (s0 : SS) (rx1 : rI x1) (rz1 : rI z1) (rz2 : rI z2) (hf : j_Ea_beginAnew_42 self2 x1 z1 z2 s0 = some out) : K ad n nl 0 0 42 [(0, .ref (ad 46)), (1, .int (vI x1))] [.int (vI z2), .int (vI z1), .ref (ad 47)] s0 := by
  unfold j_Ea_beginAnew_42 at hf
  have q47_0 := w_ref hw ht rC_46 (by decide) (k := 1) (by decide) rf_0_1
  refine r_rS h (fun hs0 => ?_)
  obtain ⟨hi1, hf⟩ := oc_some hf
  refine r_iast h dX0_beginAnew_42 q47_0.2 rC_47 rz1 (N := 12) (by rw [rN_47]; rfl) (j := (z1).toNat) rfl hi1 rz2 ?_
  refine r_os hf (fun s2 hf => ?_)
  refine r_rS h (fun hs2 => ?_)
  refine r_iinc h [(1, .int (vI (iw (x1 + 1)))), (0, .ref (ad 46))] dX0_beginAnew_43 1 rfl (by decide) rfl ?_
  refine r_goto (tgt := 2) h dX0_beginAnew_46 (by decide) ?_
  refine r_sub h [1, 0] rfl ?_
  exact hself2 (iw (x1 + 1)) s2 (rI_iw _) hf
set_option maxRecDepth 20000 in
theorem b_Ea_beginAnew_82 {l : Launch} {D : va_G} {cs : Nat → ClassId} {aS aV : Nat} {A : Nat → Prop} {K : KT} {ad : Nat → Nat} {n : Nat} {nl : Nat → Nat → Bool} {out : Int × SS} (h : w_Cl l rm_Ea_beginAnew D cs aS aV A cX0_beginAnew 2 RX0 "beginAnew" K) (hr : w_Rt 0 cX0_beginAnew 0 0 (w_Po ad n nl out) K) (hw : w_WH n nl) (ht : 46 < n) : ∀ (fu : Nat) (x1 : Int) (s0 : SS), rI x1 → l_Ea_beginAnew_82 fu x1 s0 = some out → K ad n nl 0 0 82 [(0, .ref (ad 46)), (1, .int (vI x1))] [] s0 := by
  intro fu
  induction fu with
  | zero =>
    intro x1 s0 rx1 hf
    rw [l_Ea_beginAnew_82] at hf
    cases hf
  | succ fu ih =>
    intro x1 s0 rx1 hf
    rw [l_Ea_beginAnew_82] at hf
    refine r_rS h (fun hs0 => ?_)
    refine r_iload_n h dX0_beginAnew_82 rfl 1 rfl ?_
    refine r_iconst h dX0_beginAnew_83 ?_
    refine r_icmp_ge (tgt := 100) h dX0_beginAnew_84 (by decide) rx1 (rIc rfl) (fun hc1 => ?_) (fun hc1 => ?_)
    · have hf := ite_t hc1 hf
      refine r_aload_n h dX0_beginAnew_100 rfl 0 rfl ?_
      obtain ⟨r2, s2, hq2, hf⟩ := ob_some hf
      refine r_callV0 h [] dX0_beginAnew_101 (fun hs => m_Ea_forgetActs hw ht hs hq2) ml_X0_67 cv_Ea_forgetActs rfl (co := 0) rfl (by decide) ht rC_46 ⟨rfl, rfl⟩ ⟨Nat.le_of_ble_eq_true rfl, Nat.le_of_ble_eq_true rfl⟩ ⟨Nat.le_of_ble_eq_true rfl, Nat.le_of_ble_eq_true rfl⟩ (Nat.le_of_ble_eq_true rfl) rfl (fun hr2 hs2 => ?_)
      exact r_ret0 (x := 0) hr dX0_beginAnew_104 hf
    · have hf := ite_f hc1 hf
      refine r_aload_n h dX0_beginAnew_87 rfl 0 rfl ?_
      have hq3 := w_ref hw ht rC_46 (by decide) (k := 13) (by decide) rf_0_13
      refine g_X0_21 h dX0_beginAnew_88 ht rC_46 hq3.1 ?_
      refine r_iload_n h dX0_beginAnew_91 rfl 1 rfl ?_
      refine r_iconst h dX0_beginAnew_92 ?_
      obtain ⟨hi4, hf⟩ := oc_some hf
      refine r_zast h dX0_beginAnew_93 hq3.2 rC_50 rx1 (N := 3) (by rw [rN_50]; rfl) (j := (x1).toNat) rfl hi4 (Or.inl rfl) ?_
      refine r_os hf (fun s5 hf => ?_)
      refine r_rS h (fun hs5 => ?_)
      refine r_iinc h [(1, .int (vI (iw (x1 + 1)))), (0, .ref (ad 46))] dX0_beginAnew_94 1 rfl (by decide) rfl ?_
      refine r_goto (tgt := 82) h dX0_beginAnew_97 (by decide) ?_
      refine r_sub h [1, 0] rfl ?_
      exact ih (iw (x1 + 1)) s5 (rI_iw _) hf
set_option maxRecDepth 20000 in
theorem b_Ea_beginAnew_2 {l : Launch} {D : va_G} {cs : Nat → ClassId} {aS aV : Nat} {A : Nat → Prop} {K : KT} {ad : Nat → Nat} {n : Nat} {nl : Nat → Nat → Bool} {out : Int × SS} (h : w_Cl l rm_Ea_beginAnew D cs aS aV A cX0_beginAnew 2 RX0 "beginAnew" K) (hr : w_Rt 0 cX0_beginAnew 0 0 (w_Po ad n nl out) K) (hw : w_WH n nl) (ht : 46 < n) : ∀ (fu : Nat) (x1 : Int) (s0 : SS), rI x1 → l_Ea_beginAnew_2 fu x1 s0 = some out → K ad n nl 0 0 2 [(0, .ref (ad 46)), (1, .int (vI x1))] [] s0 := by
  intro fu
  induction fu with
  | zero =>
    intro x1 s0 rx1 hf
    rw [l_Ea_beginAnew_2] at hf
    cases hf
  | succ fu ih =>
    intro x1 s0 rx1 hf
    rw [l_Ea_beginAnew_2] at hf
    refine r_rS h (fun hs0 => ?_)
    refine r_iload_n h dX0_beginAnew_2 rfl 1 rfl ?_
    refine r_aload_n h dX0_beginAnew_3 rfl 0 rfl ?_
    have hq1 := w_ref hw ht rC_46 (by decide) (k := 1) (by decide) rf_0_1
    refine g_X0_9 h dX0_beginAnew_4 ht rC_46 hq1.1 ?_
    refine r_alen (N := 12) h dX0_beginAnew_7 hq1.2 rC_47 (Or.inr (Or.inl rfl)) (by rw [rN_47]; rfl) ?_
    refine r_icmp_ge (tgt := 49) h dX0_beginAnew_8 (by decide) rx1 (rIc rfl) (fun hc2 => ?_) (fun hc2 => ?_)
    · have hf := ite_t hc2 hf
      refine r_aload_n h dX0_beginAnew_49 rfl 0 rfl ?_
      refine r_aload_n h dX0_beginAnew_50 rfl 0 rfl ?_
      have hq3 := w_ref hw ht rC_46 (by decide) (k := 0) (by decide) rf_0_0
      refine g_X0_25 h dX0_beginAnew_51 ht rC_46 hq3.1 ?_
      refine g_X0_48 h dX0_beginAnew_54 hq3.2 rC_2 ?_
      refine p_X0_51 h dX0_beginAnew_57 ht rC_46 (hs0.1 _ _) ?_
      refine r_os hf (fun s4 hf => ?_)
      refine r_rS h (fun hs4 => ?_)
      refine r_aload_n h dX0_beginAnew_60 rfl 0 rfl ?_
      refine r_iconst h dX0_beginAnew_61 ?_
      refine p_X0_54 h dX0_beginAnew_62 ht rC_46 (Or.inl rfl) ?_
      refine r_os hf (fun s5 hf => ?_)
      refine r_rS h (fun hs5 => ?_)
      refine r_aload_n h dX0_beginAnew_65 rfl 0 rfl ?_
      refine r_iconst h dX0_beginAnew_66 ?_
      refine p_X0_58 h dX0_beginAnew_67 ht rC_46 (rIc rfl) ?_
      refine r_os hf (fun s6 hf => ?_)
      refine r_rS h (fun hs6 => ?_)
      refine r_aload_n h dX0_beginAnew_70 rfl 0 rfl ?_
      refine r_iconst h dX0_beginAnew_71 ?_
      refine p_X0_61 h dX0_beginAnew_72 ht rC_46 (rIc rfl) ?_
      refine r_os hf (fun s7 hf => ?_)
      refine r_rS h (fun hs7 => ?_)
      refine r_aload_n h dX0_beginAnew_75 rfl 0 rfl ?_
      refine r_iconst h dX0_beginAnew_76 ?_
      refine p_X0_64 h dX0_beginAnew_77 ht rC_46 (rIc rfl) ?_
      refine r_os hf (fun s8 hf => ?_)
      refine r_rS h (fun hs8 => ?_)
      refine r_iconst h dX0_beginAnew_80 ?_
      refine r_istore_n h [(1, .int (vI 0)), (0, .ref (ad 46))] dX0_beginAnew_81 rfl (by decide) rfl ?_
      refine r_sub h [1, 0] rfl ?_
      exact b_Ea_beginAnew_82 h hr hw ht FU 0 s8 (rIc rfl) hf
    · have hf := ite_f hc2 hf
      refine r_aload_n h dX0_beginAnew_11 rfl 0 rfl ?_
      have hq9 := w_ref hw ht rC_46 (by decide) (k := 1) (by decide) rf_0_1
      refine g_X0_9 h dX0_beginAnew_12 ht rC_46 hq9.1 ?_
      refine r_iload_n h dX0_beginAnew_15 rfl 1 rfl ?_
      refine r_iload_n h dX0_beginAnew_16 rfl 1 rfl ?_
      refine r_iconst h dX0_beginAnew_17 ?_
      refine r_aload_n h dX0_beginAnew_18 rfl 0 rfl ?_
      have hq10 := w_ref hw ht rC_46 (by decide) (k := 0) (by decide) rf_0_0
      refine g_X0_25 h dX0_beginAnew_19 ht rC_46 hq10.1 ?_
      refine g_X0_41 h dX0_beginAnew_22 hq10.2 rC_2 ?_
      refine r_imul h dX0_beginAnew_25 ?_
      refine r_icmp_ge (tgt := 41) h dX0_beginAnew_26 (by decide) rx1 (rI_iw _) (fun hc11 => ?_) (fun hc11 => ?_)
      · have hf := ite_t hc11 hf
        refine r_iconst h dX0_beginAnew_41 ?_
        exact b_Ea_beginAnew_42 h hr hw ht x1 x1 0 (l_Ea_beginAnew_2 fu) ih s0 rx1 rx1 (rIc rfl) hf
      · have hf := ite_f hc11 hf
        refine r_aload_n h dX0_beginAnew_29 rfl 0 rfl ?_
        have hq12 := w_ref hw ht rC_46 (by decide) (k := 0) (by decide) rf_0_0
        refine g_X0_25 h dX0_beginAnew_30 ht rC_46 hq12.1 ?_
        have hq13c := rf_4_11 _ rC_2
        have hq13 := w_ref hw hq12.2 rC_2 (by decide) (k := 11) (by decide) hq13c.1
        refine g_X0_47 h dX0_beginAnew_33 hq12.2 rC_2 hq13.1 ?_
        refine r_st (st0 := [.ref (ad 11), .int (vI x1), .ref (ad 47)]) rfl ?_
        refine r_iload_n h dX0_beginAnew_36 rfl 1 rfl ?_
        obtain ⟨hi14, hf⟩ := oc_some hf
        refine r_iald h dX0_beginAnew_37 hq13.2 rC_11 rx1 (N := 12) (by rw [rN_11]; rfl) (j := (x1).toNat) rfl hi14 ?_
        refine r_goto (tgt := 42) h dX0_beginAnew_38 (by decide) ?_
        exact b_Ea_beginAnew_42 h hr hw ht x1 x1 (gi s0 11 ((x1).toNat)) (l_Ea_beginAnew_2 fu) ih s0 rx1 rx1 (hs0.1 _ _) hf
set_option maxRecDepth 20000 in
theorem m_Ea_beginAnew {l : Launch} {D : va_G} {cs : Nat → ClassId} {aS aV : Nat} {A : Nat → Prop} {ad : Nat → Nat} {n : Nat} {nl : Nat → Nat → Bool} {out : Int × SS} (hw : w_WH n nl) (ht : 46 < n) {s0 : SS} (hs0 : rS s0) (hf : f_Ea_beginAnew s0 = some out) : w_MC l D cs aS aV A yX0_beginAnew cX0_beginAnew 2 0 rm_Ea_beginAnew ad n nl [.ref (ad 46)] s0 (w_Po ad n nl out) := by
  refine w_MC_of (by decide +kernel) (by decide) hs0 (Nat.le_of_ble_eq_true rfl) (fun K h hr => ?_)
  refine r_lv (lv' := [(0, .ref (ad 46))]) rfl ?_
  unfold f_Ea_beginAnew at hf
  refine r_rS h (fun hs0 => ?_)
  refine r_iconst h dX0_beginAnew_0 ?_
  refine r_istore_n h [(1, .int (vI 0)), (0, .ref (ad 46))] dX0_beginAnew_1 rfl (by decide) rfl ?_
  refine r_sub h [1, 0] rfl ?_
  exact b_Ea_beginAnew_2 h hr hw ht FU 0 s0 (rIc rfl) hf
set_option maxRecDepth 20000 in
theorem b_Ea_keepAct_40 {l : Launch} {D : va_G} {cs : Nat → ClassId} {aS aV : Nat} {A : Nat → Prop} {K : KT} {ad : Nat → Nat} {n : Nat} {nl : Nat → Nat → Bool} {out : Int × SS} (h : w_Cl l rm_Ea_keepAct D cs aS aV A cX0_keepAct 1 RX0 "keepAct" K) (hr : w_Rt 0 cX0_keepAct 0 0 (w_Po ad n nl out) K) (hw : w_WH n nl) (ht : 46 < n) (s0 : SS) (hf : j_Ea_keepAct_40 s0 = some out) : K ad n nl 0 0 40 [(0, .ref (ad 46))] [] s0 := by
  unfold j_Ea_keepAct_40 at hf
  refine r_rS h (fun hs0 => ?_)
  refine r_aload_n h dX0_keepAct_40 rfl 0 rfl ?_
  refine r_aload_n h dX0_keepAct_41 rfl 0 rfl ?_
  have hq1 := w_ref hw ht rC_46 (by decide) (k := 8) (by decide) rf_0_8
  refine g_X0_15 h dX0_keepAct_42 ht rC_46 hq1.1 ?_
  refine r_aload_n h dX0_keepAct_45 rfl 0 rfl ?_
  obtain ⟨r2, s2, hq2, hf⟩ := ob_some hf
  refine r_callV1 h [] dX0_keepAct_46 (fun hs => m_Ea_slot hw ht hs hq2) ml_X0_119 cv_Ea_slot rfl (co := 0) rfl (by decide) ht rC_46 ⟨rfl, rfl⟩ ⟨Nat.le_of_ble_eq_true rfl, Nat.le_of_ble_eq_true rfl⟩ ⟨Nat.le_of_ble_eq_true rfl, Nat.le_of_ble_eq_true rfl⟩ (Nat.le_of_ble_eq_true rfl) rfl (fun hr2 hs2 => ?_)
  obtain ⟨r3, s3, hq3, hf⟩ := ob_some hf
  refine r_callV0 h [.ref (ad 48), .int (vI r2)] dX0_keepAct_49 (fun hs => m_Ea_put hw ht hq1.2 rC_48 hr2 hs hq3) ml_X0_127 cv_Ea_put rfl (co := 0) rfl (by decide) ht rC_46 ⟨rfl, rfl⟩ ⟨Nat.le_of_ble_eq_true rfl, Nat.le_of_ble_eq_true rfl⟩ ⟨Nat.le_of_ble_eq_true rfl, Nat.le_of_ble_eq_true rfl⟩ (Nat.le_of_ble_eq_true rfl) rfl (fun hr3 hs3 => ?_)
  exact r_ret0 (x := 0) hr dX0_keepAct_52 hf
set_option maxRecDepth 20000 in
theorem m_Ea_keepAct {l : Launch} {D : va_G} {cs : Nat → ClassId} {aS aV : Nat} {A : Nat → Prop} {ad : Nat → Nat} {n : Nat} {nl : Nat → Nat → Bool} {out : Int × SS} (hw : w_WH n nl) (ht : 46 < n) {s0 : SS} (hs0 : rS s0) (hf : f_Ea_keepAct s0 = some out) : w_MC l D cs aS aV A yX0_keepAct cX0_keepAct 1 0 rm_Ea_keepAct ad n nl [.ref (ad 46)] s0 (w_Po ad n nl out) := by
  refine w_MC_of (by decide +kernel) (by decide) hs0 (Nat.le_of_ble_eq_true rfl) (fun K h hr => ?_)
  refine r_lv (lv' := [(0, .ref (ad 46))]) rfl ?_
  unfold f_Ea_keepAct at hf
  refine r_rS h (fun hs0 => ?_)
  refine r_aload_n h dX0_keepAct_0 rfl 0 rfl ?_
  refine r_iconst h dX0_keepAct_1 ?_
  refine p_X0_116 h dX0_keepAct_2 ht rC_46 (rIc rfl) ?_
  refine r_os hf (fun s1 hf => ?_)
  refine r_rS h (fun hs1 => ?_)
  refine r_aload_n h dX0_keepAct_5 rfl 0 rfl ?_
  refine g_X0_113 h dX0_keepAct_6 ht rC_46 ?_
  refine r_bipush h dX0_keepAct_9 (by decide) ?_
  refine r_icmp_ge (tgt := 27) h dX0_keepAct_11 (by decide) (hs1.1 _ _) (rIc rfl) (fun hc2 => ?_) (fun hc2 => ?_)
  · have hf := ite_t hc2 hf
    refine r_aload_n h dX0_keepAct_27 rfl 0 rfl ?_
    refine r_aload_n h dX0_keepAct_28 rfl 0 rfl ?_
    refine g_X0_133 h dX0_keepAct_29 ht rC_46 ?_
    refine r_iconst h dX0_keepAct_32 ?_
    refine r_iadd h dX0_keepAct_33 ?_
    refine r_bipush h dX0_keepAct_34 (by decide) ?_
    refine r_irem h dX0_keepAct_36 (rI_iw _) (rIc rfl) (by decide) ?_
    refine p_X0_133 h dX0_keepAct_37 ht rC_46 (rI_tmod (rI_iw _) (rIc rfl)) ?_
    refine r_os hf (fun s3 hf => ?_)
    refine r_rS h (fun hs3 => ?_)
    exact b_Ea_keepAct_40 h hr hw ht s3 hf
  · have hf := ite_f hc2 hf
    refine r_aload_n h dX0_keepAct_14 rfl 0 rfl ?_
    refine r_dup h dX0_keepAct_15 rfl ?_
    refine g_X0_113 h dX0_keepAct_16 ht rC_46 ?_
    refine r_iconst h dX0_keepAct_19 ?_
    refine r_iadd h dX0_keepAct_20 ?_
    refine p_X0_113 h dX0_keepAct_21 ht rC_46 (rI_iw _) ?_
    refine r_os hf (fun s4 hf => ?_)
    refine r_rS h (fun hs4 => ?_)
    refine r_goto (tgt := 40) h dX0_keepAct_24 (by decide) ?_
    exact b_Ea_keepAct_40 h hr hw ht s4 hf
set_option maxRecDepth 20000 in
theorem m_Ea_beginWalk {l : Launch} {D : va_G} {cs : Nat → ClassId} {aS aV : Nat} {A : Nat → Prop} {ad : Nat → Nat} {n : Nat} {nl : Nat → Nat → Bool} {out : Int × SS} (hw : w_WH n nl) (ht : 46 < n) {a1 : Int} (ra1 : rI a1) {a2 : Int} (ra2 : rI a2) {s0 : SS} (hs0 : rS s0) (hf : f_Ea_beginWalk a1 a2 s0 = some out) : w_MC l D cs aS aV A yX0_beginWalk cX0_beginWalk 3 0 rm_Ea_beginWalk ad n nl [.ref (ad 46), .int (vI a1), .int (vI a2)] s0 (w_Po ad n nl out) := by
  refine w_MC_of (by decide +kernel) (by decide) hs0 (Nat.le_of_ble_eq_true rfl) (fun K h hr => ?_)
  refine r_lv (lv' := [(0, .ref (ad 46)), (1, .int (vI a1)), (2, .int (vI a2))]) rfl ?_
  unfold f_Ea_beginWalk at hf
  refine r_rS h (fun hs0 => ?_)
  refine r_aload_n h dX0_beginWalk_0 rfl 0 rfl ?_
  have hq1 := w_ref hw ht rC_46 (by decide) (k := 3) (by decide) rf_0_3
  refine g_X0_34 h dX0_beginWalk_1 ht rC_46 hq1.1 ?_
  refine r_iload_n h dX0_beginWalk_4 rfl 1 rfl ?_
  obtain ⟨r2, s2, hq2, hf⟩ := ob_some hf
  refine r_callV0 h [.int (vI a1)] dX0_beginWalk_5 (fun hs => m_Ta_begin hw hq1.2 rC_51 ra1 hs hq2) ml_X0_70 cv_Ta_begin rfl (co := 9) rfl (by decide) hq1.2 rC_51 ⟨rfl, rfl⟩ ⟨Nat.le_of_ble_eq_true rfl, Nat.le_of_ble_eq_true rfl⟩ ⟨Nat.le_of_ble_eq_true rfl, Nat.le_of_ble_eq_true rfl⟩ (Nat.le_of_ble_eq_true rfl) rfl (fun hr2 hs2 => ?_)
  refine r_aload_n h dX0_beginWalk_8 rfl 0 rfl ?_
  refine r_iconst h dX0_beginWalk_9 ?_
  refine p_X0_54 h dX0_beginWalk_10 ht rC_46 (Or.inr rfl) ?_
  refine r_os hf (fun s3 hf => ?_)
  refine r_rS h (fun hs3 => ?_)
  refine r_aload_n h dX0_beginWalk_13 rfl 0 rfl ?_
  refine r_iload_n h dX0_beginWalk_14 rfl 2 rfl ?_
  refine p_X0_58 h dX0_beginWalk_15 ht rC_46 ra2 ?_
  refine r_os hf (fun s4 hf => ?_)
  refine r_rS h (fun hs4 => ?_)
  refine r_aload_n h dX0_beginWalk_18 rfl 0 rfl ?_
  refine r_iconst h dX0_beginWalk_19 ?_
  refine p_X0_61 h dX0_beginWalk_20 ht rC_46 (rIc rfl) ?_
  refine r_os hf (fun s5 hf => ?_)
  refine r_rS h (fun hs5 => ?_)
  refine r_aload_n h dX0_beginWalk_23 rfl 0 rfl ?_
  refine r_iconst h dX0_beginWalk_24 ?_
  refine p_X0_64 h dX0_beginWalk_25 ht rC_46 (rIc rfl) ?_
  refine r_os hf (fun s6 hf => ?_)
  refine r_rS h (fun hs6 => ?_)
  refine r_aload_n h dX0_beginWalk_28 rfl 0 rfl ?_
  obtain ⟨r7, s7, hq7, hf⟩ := ob_some hf
  refine r_callV0 h [] dX0_beginWalk_29 (fun hs => m_Ea_keepAct hw ht hs hq7) ml_X0_74 cv_Ea_keepAct rfl (co := 0) rfl (by decide) ht rC_46 ⟨rfl, rfl⟩ ⟨Nat.le_of_ble_eq_true rfl, Nat.le_of_ble_eq_true rfl⟩ ⟨Nat.le_of_ble_eq_true rfl, Nat.le_of_ble_eq_true rfl⟩ (Nat.le_of_ble_eq_true rfl) rfl (fun hr7 hs7 => ?_)
  exact r_ret0 (x := 0) hr dX0_beginWalk_32 hf
set_option maxRecDepth 20000 in
theorem m_Ea_takeWay {l : Launch} {D : va_G} {cs : Nat → ClassId} {aS aV : Nat} {A : Nat → Prop} {ad : Nat → Nat} {n : Nat} {nl : Nat → Nat → Bool} {out : Int × SS} (hw : w_WH n nl) (ht : 46 < n) {a1 : Int} (ra1 : rI a1) {s0 : SS} (hs0 : rS s0) (hf : f_Ea_takeWay a1 s0 = some out) : w_MC l D cs aS aV A yX0_takeWay cX0_takeWay 2 1 rm_Ea_takeWay ad n nl [.ref (ad 46), .int (vI a1)] s0 (w_Po ad n nl out) := by
  refine w_MC_of (by decide +kernel) (by decide) hs0 (Nat.le_of_ble_eq_true rfl) (fun K h hr => ?_)
  refine r_lv (lv' := [(0, .ref (ad 46)), (1, .int (vI a1))]) rfl ?_
  unfold f_Ea_takeWay at hf
  refine r_rS h (fun hs0 => ?_)
  refine r_aload_n h dX0_takeWay_0 rfl 0 rfl ?_
  refine g_X0_54 h dX0_takeWay_1 ht rC_46 ?_
  refine r_if_eq (tgt := 41) h dX0_takeWay_4 (by decide) (hs0.1 _ _) (fun hc1 => ?_) (fun hc1 => ?_)
  · have hf := ite_t hc1 hf
    refine r_iconst h dX0_takeWay_41 ?_
    exact r_ret1 hr dX0_takeWay_42 (rIc rfl) hf
  · have hf := ite_f hc1 hf
    refine r_aload_n h dX0_takeWay_7 rfl 0 rfl ?_
    refine g_X0_61 h dX0_takeWay_8 ht rC_46 ?_
    refine r_iconst h dX0_takeWay_11 ?_
    refine r_icmp_ne (tgt := 41) h dX0_takeWay_12 (by decide) (hs0.1 _ _) (rIc rfl) (fun hc2 => ?_) (fun hc2 => ?_)
    · have hf := ite_f hc2 hf
      refine r_iconst h dX0_takeWay_41 ?_
      exact r_ret1 hr dX0_takeWay_42 (rIc rfl) hf
    · have hf := ite_nf hc2 hf
      refine r_aload_n h dX0_takeWay_15 rfl 0 rfl ?_
      have hq3 := w_ref hw ht rC_46 (by decide) (k := 3) (by decide) rf_0_3
      refine g_X0_34 h dX0_takeWay_16 ht rC_46 hq3.1 ?_
      obtain ⟨r4, s4, hq4, hf⟩ := ob_some hf
      refine r_callV2 h [] dX0_takeWay_19 (fun hs => m_Ta_isOver hw hq3.2 rC_51 hs hq4) ml_X0_77 cv_Ta_isOver rfl (co := 9) rfl (by decide) hq3.2 rC_51 ⟨rfl, rfl⟩ ⟨Nat.le_of_ble_eq_true rfl, Nat.le_of_ble_eq_true rfl⟩ ⟨Nat.le_of_ble_eq_true rfl, Nat.le_of_ble_eq_true rfl⟩ (Nat.le_of_ble_eq_true rfl) rfl (fun hr4 hs4 => ?_)
      refine r_if_ne (tgt := 41) h dX0_takeWay_22 (by decide) (rI_b hr4) (fun hc5 => ?_) (fun hc5 => ?_)
      · have hf := ite_f hc5 hf
        refine r_iconst h dX0_takeWay_41 ?_
        exact r_ret1 hr dX0_takeWay_42 (rIc rfl) hf
      · have hf := ite_nf hc5 hf
        refine r_aload_n h dX0_takeWay_25 rfl 0 rfl ?_
        have hq6 := w_ref hw ht rC_46 (by decide) (k := 0) (by decide) rf_0_0
        refine g_X0_25 h dX0_takeWay_26 ht rC_46 hq6.1 ?_
        refine r_iload_n h dX0_takeWay_29 rfl 1 rfl ?_
        refine r_aload_n h dX0_takeWay_30 rfl 0 rfl ?_
        refine g_X0_58 h dX0_takeWay_31 ht rC_46 ?_
        obtain ⟨r7, s7, hq7, hf⟩ := ob_some hf
        refine r_callV1 h [.int (vI a1), .int (vI (gi s4 46 5))] dX0_takeWay_34 (fun hs => m_La_otherEnd hw hq6.2 rC_2 ra1 (hs4.1 _ _) hs hq7) ml_X0_81 cv_La_otherEnd rfl (co := 4) rfl (by decide) hq6.2 rC_2 ⟨rfl, rfl⟩ ⟨Nat.le_of_ble_eq_true rfl, Nat.le_of_ble_eq_true rfl⟩ ⟨Nat.le_of_ble_eq_true rfl, Nat.le_of_ble_eq_true rfl⟩ (Nat.le_of_ble_eq_true rfl) rfl (fun hr7 hs7 => ?_)
        refine r_iconst h dX0_takeWay_37 ?_
        refine r_icmp_ne (tgt := 43) h dX0_takeWay_38 (by decide) hr7 (rIc rfl) (fun hc8 => ?_) (fun hc8 => ?_)
        · have hf := ite_f hc8 hf
          refine r_aload_n h dX0_takeWay_43 rfl 0 rfl ?_
          refine r_iload_n h dX0_takeWay_44 rfl 1 rfl ?_
          refine p_X0_61 h dX0_takeWay_45 ht rC_46 ra1 ?_
          refine r_os hf (fun s9 hf => ?_)
          refine r_rS h (fun hs9 => ?_)
          refine r_aload_n h dX0_takeWay_48 rfl 0 rfl ?_
          refine r_iconst h dX0_takeWay_49 ?_
          refine p_X0_64 h dX0_takeWay_50 ht rC_46 (rIc rfl) ?_
          refine r_os hf (fun s10 hf => ?_)
          refine r_rS h (fun hs10 => ?_)
          refine r_aload_n h dX0_takeWay_53 rfl 0 rfl ?_
          obtain ⟨r11, s11, hq11, hf⟩ := ob_some hf
          refine r_callV0 h [] dX0_takeWay_54 (fun hs => m_Ea_keepAct hw ht hs hq11) ml_X0_74 cv_Ea_keepAct rfl (co := 0) rfl (by decide) ht rC_46 ⟨rfl, rfl⟩ ⟨Nat.le_of_ble_eq_true rfl, Nat.le_of_ble_eq_true rfl⟩ ⟨Nat.le_of_ble_eq_true rfl, Nat.le_of_ble_eq_true rfl⟩ (Nat.le_of_ble_eq_true rfl) rfl (fun hr11 hs11 => ?_)
          refine r_aload_n h dX0_takeWay_57 rfl 0 rfl ?_
          have hq12 := w_ref hw ht rC_46 (by decide) (k := 0) (by decide) rf_0_0
          refine g_X0_25 h dX0_takeWay_58 ht rC_46 hq12.1 ?_
          have hq13c := rf_4_7 _ rC_2
          have hq13 := w_ref hw hq12.2 rC_2 (by decide) (k := 7) (by decide) hq13c.1
          refine g_X0_85 h dX0_takeWay_61 hq12.2 rC_2 hq13.1 ?_
          refine r_st (st0 := [.ref (ad 8)]) rfl ?_
          refine r_iload_n h dX0_takeWay_64 rfl 1 rfl ?_
          obtain ⟨hi14, hf⟩ := oc_some hf
          refine r_iald h dX0_takeWay_65 hq13.2 rC_8 ra1 (N := 14) (by rw [rN_8]; rfl) (j := (a1).toNat) rfl hi14 ?_
          exact r_ret1 hr dX0_takeWay_66 (hs11.1 _ _) hf
        · have hf := ite_nf hc8 hf
          refine r_iconst h dX0_takeWay_41 ?_
          exact r_ret1 hr dX0_takeWay_42 (rIc rfl) hf
set_option maxRecDepth 20000 in
theorem m_Ea_sayOne {l : Launch} {D : va_G} {cs : Nat → ClassId} {aS aV : Nat} {A : Nat → Prop} {ad : Nat → Nat} {n : Nat} {nl : Nat → Nat → Bool} {out : Int × SS} (hw : w_WH n nl) (ht : 46 < n) {s0 : SS} (hs0 : rS s0) (hf : f_Ea_sayOne s0 = some out) : w_MC l D cs aS aV A yX0_sayOne cX0_sayOne 2 0 rm_Ea_sayOne ad n nl [.ref (ad 46)] s0 (w_Po ad n nl out) := by
  refine w_MC_of (by decide +kernel) (by decide) hs0 (Nat.le_of_ble_eq_true rfl) (fun K h hr => ?_)
  refine r_lv (lv' := [(0, .ref (ad 46))]) rfl ?_
  unfold f_Ea_sayOne at hf
  refine r_rS h (fun hs0 => ?_)
  refine r_aload_n h dX0_sayOne_0 rfl 0 rfl ?_
  have hq1 := w_ref hw ht rC_46 (by decide) (k := 0) (by decide) rf_0_0
  refine g_X0_25 h dX0_sayOne_1 ht rC_46 hq1.1 ?_
  refine r_aload_n h dX0_sayOne_4 rfl 0 rfl ?_
  refine g_X0_61 h dX0_sayOne_5 ht rC_46 ?_
  refine r_aload_n h dX0_sayOne_8 rfl 0 rfl ?_
  refine g_X0_58 h dX0_sayOne_9 ht rC_46 ?_
  obtain ⟨r2, s2, hq2, hf⟩ := ob_some hf
  refine r_callV1 h [.int (vI (gi s0 46 6)), .int (vI (gi s0 46 5))] dX0_sayOne_12 (fun hs => m_La_otherEnd hw hq1.2 rC_2 (hs0.1 _ _) (hs0.1 _ _) hs hq2) ml_X0_81 cv_La_otherEnd rfl (co := 4) rfl (by decide) hq1.2 rC_2 ⟨rfl, rfl⟩ ⟨Nat.le_of_ble_eq_true rfl, Nat.le_of_ble_eq_true rfl⟩ ⟨Nat.le_of_ble_eq_true rfl, Nat.le_of_ble_eq_true rfl⟩ (Nat.le_of_ble_eq_true rfl) rfl (fun hr2 hs2 => ?_)
  refine r_istore_n h [(1, .int (vI r2)), (0, .ref (ad 46))] dX0_sayOne_15 rfl (by decide) rfl ?_
  refine r_aload_n h dX0_sayOne_16 rfl 1 rfl ?_
  refine r_dup h dX0_sayOne_17 rfl ?_
  refine g_X0_64 h dX0_sayOne_18 ht rC_46 ?_
  refine r_iconst h dX0_sayOne_21 ?_
  refine r_iadd h dX0_sayOne_22 ?_
  refine p_X0_64 h dX0_sayOne_23 ht rC_46 (rI_iw _) ?_
  refine r_os hf (fun s3 hf => ?_)
  refine r_rS h (fun hs3 => ?_)
  refine r_aload_n h dX0_sayOne_26 rfl 1 rfl ?_
  have hq4 := w_ref hw ht rC_46 (by decide) (k := 3) (by decide) rf_0_3
  refine g_X0_34 h dX0_sayOne_27 ht rC_46 hq4.1 ?_
  refine r_aload_n h dX0_sayOne_30 rfl 1 rfl ?_
  have hq5 := w_ref hw ht rC_46 (by decide) (k := 1) (by decide) rf_0_1
  refine g_X0_9 h dX0_sayOne_31 ht rC_46 hq5.1 ?_
  refine r_aload_n h dX0_sayOne_34 rfl 1 rfl ?_
  refine g_X0_61 h dX0_sayOne_35 ht rC_46 ?_
  refine r_aload_n h dX0_sayOne_38 rfl 1 rfl ?_
  refine g_X0_64 h dX0_sayOne_39 ht rC_46 ?_
  refine r_iload_n h dX0_sayOne_42 rfl 0 rfl ?_
  obtain ⟨r6, s6, hq6, hf⟩ := ob_some hf
  refine r_callV0 h [.ref (ad 47), .int (vI (gi s3 46 6)), .int (vI (gi s3 46 7)), .int (vI r2)] dX0_sayOne_43 (fun hs => m_Ta_sayOnWay hw hq4.2 rC_51 hq5.2 rC_47 (hs3.1 _ _) (hs3.1 _ _) hr2 hs hq6) ml_X0_95 cv_Ta_sayOnWay rfl (co := 9) rfl (by decide) hq4.2 rC_51 ⟨rfl, rfl⟩ ⟨Nat.le_of_ble_eq_true rfl, Nat.le_of_ble_eq_true rfl⟩ ⟨Nat.le_of_ble_eq_true rfl, Nat.le_of_ble_eq_true rfl⟩ (Nat.le_of_ble_eq_true rfl) rfl (fun hr6 hs6 => ?_)
  refine r_aload_n h dX0_sayOne_46 rfl 1 rfl ?_
  have hq7 := w_ref hw ht rC_46 (by decide) (k := 0) (by decide) rf_0_0
  refine g_X0_25 h dX0_sayOne_47 ht rC_46 hq7.1 ?_
  refine r_aload_n h dX0_sayOne_50 rfl 1 rfl ?_
  refine g_X0_61 h dX0_sayOne_51 ht rC_46 ?_
  obtain ⟨r8, s8, hq8, hf⟩ := ob_some hf
  refine r_callV2 h [.int (vI (gi s6 46 6))] dX0_sayOne_54 (fun hs => m_La_isWay hw hq7.2 rC_2 (hs6.1 _ _) hs hq8) ml_X0_88 cv_La_isWay rfl (co := 4) rfl (by decide) hq7.2 rC_2 ⟨rfl, rfl⟩ ⟨Nat.le_of_ble_eq_true rfl, Nat.le_of_ble_eq_true rfl⟩ ⟨Nat.le_of_ble_eq_true rfl, Nat.le_of_ble_eq_true rfl⟩ (Nat.le_of_ble_eq_true rfl) rfl (fun hr8 hs8 => ?_)
  refine r_if_eq (tgt := 94) h dX0_sayOne_57 (by decide) (rI_b hr8) (fun hc9 => ?_) (fun hc9 => ?_)
  · have hf := ite_t hc9 hf
    exact r_ret0 (x := 0) hr dX0_sayOne_94 hf
  · have hf := ite_f hc9 hf
    refine r_aload_n h dX0_sayOne_60 rfl 1 rfl ?_
    refine g_X0_64 h dX0_sayOne_61 ht rC_46 ?_
    refine r_aload_n h dX0_sayOne_64 rfl 1 rfl ?_
    have hq10 := w_ref hw ht rC_46 (by decide) (k := 0) (by decide) rf_0_0
    refine g_X0_25 h dX0_sayOne_65 ht rC_46 hq10.1 ?_
    have hq11c := rf_4_7 _ rC_2
    have hq11 := w_ref hw hq10.2 rC_2 (by decide) (k := 7) (by decide) hq11c.1
    refine g_X0_85 h dX0_sayOne_68 hq10.2 rC_2 hq11.1 ?_
    refine r_st (st0 := [.ref (ad 8), .int (vI (gi s8 46 7))]) rfl ?_
    refine r_aload_n h dX0_sayOne_71 rfl 1 rfl ?_
    refine g_X0_61 h dX0_sayOne_72 ht rC_46 ?_
    obtain ⟨hi12, hf⟩ := oc_some hf
    refine r_iald h dX0_sayOne_75 hq11.2 rC_8 (hs8.1 _ _) (N := 14) (by rw [rN_8]; rfl) (j := (gi s8 46 6).toNat) rfl hi12 ?_
    refine r_icmp_lt (tgt := 94) h dX0_sayOne_76 (by decide) (hs8.1 _ _) (hs8.1 _ _) (fun hc13 => ?_) (fun hc13 => ?_)
    · have hf := ite_t hc13 hf
      exact r_ret0 (x := 0) hr dX0_sayOne_94 hf
    · have hf := ite_f hc13 hf
      refine r_aload_n h dX0_sayOne_79 rfl 1 rfl ?_
      refine r_iload_n h dX0_sayOne_80 rfl 0 rfl ?_
      refine p_X0_58 h dX0_sayOne_81 ht rC_46 hr2 ?_
      refine r_os hf (fun s14 hf => ?_)
      refine r_rS h (fun hs14 => ?_)
      refine r_aload_n h dX0_sayOne_84 rfl 1 rfl ?_
      refine r_iconst h dX0_sayOne_85 ?_
      refine p_X0_61 h dX0_sayOne_86 ht rC_46 (rIc rfl) ?_
      refine r_os hf (fun s15 hf => ?_)
      refine r_rS h (fun hs15 => ?_)
      refine r_aload_n h dX0_sayOne_89 rfl 1 rfl ?_
      refine r_iconst h dX0_sayOne_90 ?_
      refine p_X0_64 h dX0_sayOne_91 ht rC_46 (rIc rfl) ?_
      refine r_os hf (fun s16 hf => ?_)
      refine r_rS h (fun hs16 => ?_)
      exact r_ret0 (x := 0) hr dX0_sayOne_94 hf
set_option maxRecDepth 20000 in
theorem b_Ea_sayWords_50 {l : Launch} {D : va_G} {cs : Nat → ClassId} {aS aV : Nat} {A : Nat → Prop} {K : KT} {ad : Nat → Nat} {n : Nat} {nl : Nat → Nat → Bool} {out : Int × SS} (h : w_Cl l rm_Ea_sayWords D cs aS aV A cX0_sayWords 3 RX0 "sayWords" K) (hr : w_Rt 1 cX0_sayWords 0 0 (w_Po ad n nl out) K) (hw : w_WH n nl) (ht : 46 < n) (x2 : Int) (s0 : SS) (rx2 : rI x2) (hf : j_Ea_sayWords_50 x2 s0 = some out) : K ad n nl 0 0 50 [(0, .ref (ad 46)), (2, .int (vI x2))] [] s0 := by
  unfold j_Ea_sayWords_50 at hf
  refine r_rS h (fun hs0 => ?_)
  refine r_aload_n h dX0_sayWords_50 rfl 0 rfl ?_
  obtain ⟨r1, s1, hq1, hf⟩ := ob_some hf
  refine r_callV0 h [] dX0_sayWords_51 (fun hs => m_Ea_keepAct hw ht hs hq1) ml_X0_74 cv_Ea_keepAct rfl (co := 0) rfl (by decide) ht rC_46 ⟨rfl, rfl⟩ ⟨Nat.le_of_ble_eq_true rfl, Nat.le_of_ble_eq_true rfl⟩ ⟨Nat.le_of_ble_eq_true rfl, Nat.le_of_ble_eq_true rfl⟩ (Nat.le_of_ble_eq_true rfl) rfl (fun hr1 hs1 => ?_)
  refine r_iload_n h dX0_sayWords_54 rfl 1 rfl ?_
  exact r_ret1 hr dX0_sayWords_55 rx2 hf
set_option maxRecDepth 20000 in
theorem b_Ea_sayWords_11 {l : Launch} {D : va_G} {cs : Nat → ClassId} {aS aV : Nat} {A : Nat → Prop} {K : KT} {ad : Nat → Nat} {n : Nat} {nl : Nat → Nat → Bool} {out : Int × SS} (h : w_Cl l rm_Ea_sayWords D cs aS aV A cX0_sayWords 3 RX0 "sayWords" K) (hr : w_Rt 1 cX0_sayWords 0 0 (w_Po ad n nl out) K) (hw : w_WH n nl) (ht : 46 < n) {y1 : Int} (ry1 : rI y1) : ∀ (fu : Nat) (x2 : Int) (s0 : SS), rI x2 → l_Ea_sayWords_11 y1 fu x2 s0 = some out → K ad n nl 0 0 11 [(0, .ref (ad 46)), (1, .int (vI y1)), (2, .int (vI x2))] [] s0 := by
  intro fu
  induction fu with
  | zero =>
    intro x2 s0 rx2 hf
    rw [l_Ea_sayWords_11] at hf
    cases hf
  | succ fu ih =>
    intro x2 s0 rx2 hf
    rw [l_Ea_sayWords_11] at hf
    refine r_rS h (fun hs0 => ?_)
    refine r_iload_n h dX0_sayWords_11 rfl 2 rfl ?_
    refine r_iload_n h dX0_sayWords_12 rfl 1 rfl ?_
    refine r_icmp_ge (tgt := 50) h dX0_sayWords_13 (by decide) rx2 ry1 (fun hc1 => ?_) (fun hc1 => ?_)
    · have hf := ite_t hc1 hf
      refine r_sub h [0, 2] rfl ?_
      exact b_Ea_sayWords_50 h hr hw ht x2 s0 rx2 hf
    · have hf := ite_f hc1 hf
      refine r_aload_n h dX0_sayWords_16 rfl 0 rfl ?_
      have hq2 := w_ref hw ht rC_46 (by decide) (k := 0) (by decide) rf_0_0
      refine g_X0_25 h dX0_sayWords_17 ht rC_46 hq2.1 ?_
      refine r_aload_n h dX0_sayWords_20 rfl 0 rfl ?_
      refine g_X0_61 h dX0_sayWords_21 ht rC_46 ?_
      obtain ⟨r3, s3, hq3, hf⟩ := ob_some hf
      refine r_callV2 h [.int (vI (gi s0 46 6))] dX0_sayWords_24 (fun hs => m_La_isWay hw hq2.2 rC_2 (hs0.1 _ _) hs hq3) ml_X0_88 cv_La_isWay rfl (co := 4) rfl (by decide) hq2.2 rC_2 ⟨rfl, rfl⟩ ⟨Nat.le_of_ble_eq_true rfl, Nat.le_of_ble_eq_true rfl⟩ ⟨Nat.le_of_ble_eq_true rfl, Nat.le_of_ble_eq_true rfl⟩ (Nat.le_of_ble_eq_true rfl) rfl (fun hr3 hs3 => ?_)
      refine r_if_eq (tgt := 50) h dX0_sayWords_27 (by decide) (rI_b hr3) (fun hc4 => ?_) (fun hc4 => ?_)
      · have hf := ite_t hc4 hf
        refine r_sub h [0, 2] rfl ?_
        exact b_Ea_sayWords_50 h hr hw ht x2 s3 rx2 hf
      · have hf := ite_f hc4 hf
        refine r_aload_n h dX0_sayWords_30 rfl 0 rfl ?_
        have hq5 := w_ref hw ht rC_46 (by decide) (k := 3) (by decide) rf_0_3
        refine g_X0_34 h dX0_sayWords_31 ht rC_46 hq5.1 ?_
        obtain ⟨r6, s6, hq6, hf⟩ := ob_some hf
        refine r_callV2 h [] dX0_sayWords_34 (fun hs => m_Ta_isOver hw hq5.2 rC_51 hs hq6) ml_X0_77 cv_Ta_isOver rfl (co := 9) rfl (by decide) hq5.2 rC_51 ⟨rfl, rfl⟩ ⟨Nat.le_of_ble_eq_true rfl, Nat.le_of_ble_eq_true rfl⟩ ⟨Nat.le_of_ble_eq_true rfl, Nat.le_of_ble_eq_true rfl⟩ (Nat.le_of_ble_eq_true rfl) rfl (fun hr6 hs6 => ?_)
        refine r_if_ne (tgt := 50) h dX0_sayWords_37 (by decide) (rI_b hr6) (fun hc7 => ?_) (fun hc7 => ?_)
        · have hf := ite_f hc7 hf
          refine r_sub h [0, 2] rfl ?_
          exact b_Ea_sayWords_50 h hr hw ht x2 s6 rx2 hf
        · have hf := ite_nf hc7 hf
          refine r_aload_n h dX0_sayWords_40 rfl 0 rfl ?_
          obtain ⟨r8, s8, hq8, hf⟩ := ob_some hf
          refine r_callV0 h [] dX0_sayWords_41 (fun hs => m_Ea_sayOne hw ht hs hq8) ml_X0_92 cv_Ea_sayOne rfl (co := 0) rfl (by decide) ht rC_46 ⟨rfl, rfl⟩ ⟨Nat.le_of_ble_eq_true rfl, Nat.le_of_ble_eq_true rfl⟩ ⟨Nat.le_of_ble_eq_true rfl, Nat.le_of_ble_eq_true rfl⟩ (Nat.le_of_ble_eq_true rfl) rfl (fun hr8 hs8 => ?_)
          refine r_iinc h [(2, .int (vI (iw (x2 + 1)))), (0, .ref (ad 46)), (1, .int (vI y1))] dX0_sayWords_44 2 rfl (by decide) rfl ?_
          refine r_goto (tgt := 11) h dX0_sayWords_47 (by decide) ?_
          refine r_sub h [1, 2, 0] rfl ?_
          exact ih (iw (x2 + 1)) s8 (rI_iw _) hf
set_option maxRecDepth 20000 in
theorem m_Ea_sayWords {l : Launch} {D : va_G} {cs : Nat → ClassId} {aS aV : Nat} {A : Nat → Prop} {ad : Nat → Nat} {n : Nat} {nl : Nat → Nat → Bool} {out : Int × SS} (hw : w_WH n nl) (ht : 46 < n) {a1 : Int} (ra1 : rI a1) {s0 : SS} (hs0 : rS s0) (hf : f_Ea_sayWords a1 s0 = some out) : w_MC l D cs aS aV A yX0_sayWords cX0_sayWords 3 1 rm_Ea_sayWords ad n nl [.ref (ad 46), .int (vI a1)] s0 (w_Po ad n nl out) := by
  refine w_MC_of (by decide +kernel) (by decide) hs0 (Nat.le_of_ble_eq_true rfl) (fun K h hr => ?_)
  refine r_lv (lv' := [(0, .ref (ad 46)), (1, .int (vI a1))]) rfl ?_
  unfold f_Ea_sayWords at hf
  refine r_rS h (fun hs0 => ?_)
  refine r_aload_n h dX0_sayWords_0 rfl 0 rfl ?_
  refine g_X0_54 h dX0_sayWords_1 ht rC_46 ?_
  refine r_if_ne (tgt := 9) h dX0_sayWords_4 (by decide) (hs0.1 _ _) (fun hc1 => ?_) (fun hc1 => ?_)
  · have hf := ite_f hc1 hf
    refine r_iconst h dX0_sayWords_9 ?_
    refine r_istore_n h [(2, .int (vI 0)), (0, .ref (ad 46)), (1, .int (vI a1))] dX0_sayWords_10 rfl (by decide) rfl ?_
    refine r_sub h [1, 2, 0] rfl ?_
    exact b_Ea_sayWords_11 h hr hw ht ra1 FU 0 s0 (rIc rfl) hf
  · have hf := ite_nf hc1 hf
    refine r_iconst h dX0_sayWords_7 ?_
    exact r_ret1 hr dX0_sayWords_8 (rIc rfl) hf
set_option maxRecDepth 20000 in
theorem b_Ea_passYear_100 {l : Launch} {D : va_G} {cs : Nat → ClassId} {aS aV : Nat} {A : Nat → Prop} {K : KT} {ad : Nat → Nat} {n : Nat} {nl : Nat → Nat → Bool} {out : Int × SS} (h : w_Cl l rm_Ea_passYear D cs aS aV A cX0_passYear 3 RX0 "passYear" K) (hr : w_Rt 1 cX0_passYear 0 0 (w_Po ad n nl out) K) (hw : w_WH n nl) (ht : 46 < n) (x1 : Int) (s0 : SS) (rx1 : rI x1) (hf : j_Ea_passYear_100 x1 s0 = some out) : K ad n nl 0 0 100 [(0, .ref (ad 46)), (1, .int (vI x1))] [] s0 := by
  unfold j_Ea_passYear_100 at hf
  refine r_rS h (fun hs0 => ?_)
  refine r_aload_n h dX0_passYear_100 rfl 0 rfl ?_
  obtain ⟨r1, s1, hq1, hf⟩ := ob_some hf
  refine r_callV0 h [] dX0_passYear_101 (fun hs => m_Ea_keepAct hw ht hs hq1) ml_X0_74 cv_Ea_keepAct rfl (co := 0) rfl (by decide) ht rC_46 ⟨rfl, rfl⟩ ⟨Nat.le_of_ble_eq_true rfl, Nat.le_of_ble_eq_true rfl⟩ ⟨Nat.le_of_ble_eq_true rfl, Nat.le_of_ble_eq_true rfl⟩ (Nat.le_of_ble_eq_true rfl) rfl (fun hr1 hs1 => ?_)
  refine r_iload_n h dX0_passYear_104 rfl 1 rfl ?_
  exact r_ret1 hr dX0_passYear_105 rx1 hf
set_option maxRecDepth 20000 in
theorem b_Ea_passYear_67 {l : Launch} {D : va_G} {cs : Nat → ClassId} {aS aV : Nat} {A : Nat → Prop} {K : KT} {ad : Nat → Nat} {n : Nat} {nl : Nat → Nat → Bool} {out : Int × SS} (h : w_Cl l rm_Ea_passYear D cs aS aV A cX0_passYear 3 RX0 "passYear" K) (hr : w_Rt 1 cX0_passYear 0 0 (w_Po ad n nl out) K) (hw : w_WH n nl) (ht : 46 < n) (x1 : Int) (z0 : Int) (s0 : SS) (rx1 : rI x1) (rz0 : rI z0) (hf : j_Ea_passYear_67 x1 z0 s0 = some out) : K ad n nl 0 0 67 [(0, .ref (ad 46)), (1, .int (vI x1))] [.int (vI z0)] s0 := by
  unfold j_Ea_passYear_67 at hf
  refine r_rS h (fun hs0 => ?_)
  refine r_istore_n h [(2, .int (vI z0)), (0, .ref (ad 46)), (1, .int (vI x1))] dX0_passYear_67 rfl (by decide) rfl ?_
  refine r_iload_n h dX0_passYear_68 rfl 0 rfl ?_
  refine r_if_lt (tgt := 100) h dX0_passYear_69 (by decide) rz0 (fun hc1 => ?_) (fun hc1 => ?_)
  · have hf := ite_t hc1 hf
    refine r_sub h [1, 2] rfl ?_
    exact b_Ea_passYear_100 h hr hw ht x1 s0 rx1 hf
  · have hf := ite_f hc1 hf
    refine r_iload_n h dX0_passYear_72 rfl 0 rfl ?_
    refine r_aload_n h dX0_passYear_73 rfl 1 rfl ?_
    have hq2 := w_ref hw ht rC_46 (by decide) (k := 1) (by decide) rf_0_1
    refine g_X0_9 h dX0_passYear_74 ht rC_46 hq2.1 ?_
    refine r_alen (N := 12) h dX0_passYear_77 hq2.2 rC_47 (Or.inr (Or.inl rfl)) (by rw [rN_47]; rfl) ?_
    refine r_icmp_ge (tgt := 100) h dX0_passYear_78 (by decide) rz0 (rIc rfl) (fun hc3 => ?_) (fun hc3 => ?_)
    · have hf := ite_t hc3 hf
      refine r_sub h [1, 2] rfl ?_
      exact b_Ea_passYear_100 h hr hw ht x1 s0 rx1 hf
    · have hf := ite_f hc3 hf
      refine r_aload_n h dX0_passYear_81 rfl 1 rfl ?_
      have hq4 := w_ref hw ht rC_46 (by decide) (k := 1) (by decide) rf_0_1
      refine g_X0_9 h dX0_passYear_82 ht rC_46 hq4.1 ?_
      refine r_iload_n h dX0_passYear_85 rfl 0 rfl ?_
      refine r_aload_n h dX0_passYear_86 rfl 1 rfl ?_
      have hq5 := w_ref hw ht rC_46 (by decide) (k := 1) (by decide) rf_0_1
      refine g_X0_9 h dX0_passYear_87 ht rC_46 hq5.1 ?_
      refine r_iload_n h dX0_passYear_90 rfl 0 rfl ?_
      obtain ⟨hi6, hf⟩ := oc_some hf
      refine r_iald h dX0_passYear_91 hq5.2 rC_47 rz0 (N := 12) (by rw [rN_47]; rfl) (j := (z0).toNat) rfl hi6 ?_
      refine r_iconst h dX0_passYear_92 ?_
      refine r_iadd h dX0_passYear_93 ?_
      refine r_bipush h dX0_passYear_94 (by decide) ?_
      refine r_mmin h dX0_passYear_96 (gt_in4 195 rfl rfl) ms_mmin.1 ms_mmin.2.1 ms_mmin.2.2 (Nat.le_of_ble_eq_true rfl) (Nat.le_of_ble_eq_true rfl) (Nat.le_of_ble_eq_true rfl) (Nat.le_of_ble_eq_true rfl) (rI_iw _) (rIc rfl) ?_
      obtain ⟨hi7, hf⟩ := oc_some hf
      refine r_iast h dX0_passYear_99 hq4.2 rC_47 rz0 (N := 12) (by rw [rN_47]; rfl) (j := (z0).toNat) rfl hi7 (rI_zmin (rI_iw _) (rIc rfl)) ?_
      refine r_os hf (fun s8 hf => ?_)
      refine r_rS h (fun hs8 => ?_)
      refine r_sub h [1, 2] rfl ?_
      exact b_Ea_passYear_100 h hr hw ht x1 s8 rx1 hf
set_option maxRecDepth 20000 in
theorem m_Ea_passYear {l : Launch} {D : va_G} {cs : Nat → ClassId} {aS aV : Nat} {A : Nat → Prop} {ad : Nat → Nat} {n : Nat} {nl : Nat → Nat → Bool} {out : Int × SS} (hw : w_WH n nl) (ht : 46 < n) {s0 : SS} (hs0 : rS s0) (hf : f_Ea_passYear s0 = some out) : w_MC l D cs aS aV A yX0_passYear cX0_passYear 3 1 rm_Ea_passYear ad n nl [.ref (ad 46)] s0 (w_Po ad n nl out) := by
  refine w_MC_of (by decide +kernel) (by decide) hs0 (Nat.le_of_ble_eq_true rfl) (fun K h hr => ?_)
  refine r_lv (lv' := [(0, .ref (ad 46))]) rfl ?_
  unfold f_Ea_passYear at hf
  refine r_rS h (fun hs0 => ?_)
  refine r_aload_n h dX0_passYear_0 rfl 0 rfl ?_
  have hq1 := w_ref hw ht rC_46 (by decide) (k := 0) (by decide) rf_0_0
  refine g_X0_25 h dX0_passYear_1 ht rC_46 hq1.1 ?_
  refine g_X0_41 h dX0_passYear_4 hq1.2 rC_2 ?_
  refine r_if_gt (tgt := 12) h dX0_passYear_7 (by decide) (hs0.1 _ _) (fun hc2 => ?_) (fun hc2 => ?_)
  · have hf := ite_t hc2 hf
    refine r_aload_n h dX0_passYear_12 rfl 0 rfl ?_
    refine r_aload_n h dX0_passYear_13 rfl 0 rfl ?_
    refine g_X0_51 h dX0_passYear_14 ht rC_46 ?_
    refine r_sipush h dX0_passYear_17 (by decide) ?_
    refine r_imul h dX0_passYear_20 ?_
    refine r_bipush h dX0_passYear_21 (by decide) ?_
    refine r_iadd h dX0_passYear_23 ?_
    refine r_sipush h dX0_passYear_24 (by decide) ?_
    refine r_irem h dX0_passYear_27 (rI_iw _) (rIc rfl) (by decide) ?_
    refine p_X0_51 h dX0_passYear_28 ht rC_46 (rI_tmod (rI_iw _) (rIc rfl)) ?_
    refine r_os hf (fun s3 hf => ?_)
    refine r_rS h (fun hs3 => ?_)
    refine r_aload_n h dX0_passYear_31 rfl 0 rfl ?_
    refine g_X0_51 h dX0_passYear_32 ht rC_46 ?_
    refine r_aload_n h dX0_passYear_35 rfl 0 rfl ?_
    have hq4 := w_ref hw ht rC_46 (by decide) (k := 0) (by decide) rf_0_0
    refine g_X0_25 h dX0_passYear_36 ht rC_46 hq4.1 ?_
    refine g_X0_41 h dX0_passYear_39 hq4.2 rC_2 ?_
    obtain ⟨h05, hf⟩ := oc_some hf
    refine r_irem h dX0_passYear_42 (hs3.1 _ _) (hs3.1 _ _) h05 ?_
    refine r_ol hf (rI_tmod (hs3.1 _ _) (hs3.1 _ _)) (fun x6_ rx6_ hf => ?_)
    refine r_istore_n h [(1, .int (vI x6_)), (0, .ref (ad 46))] dX0_passYear_43 rfl (by decide) rfl ?_
    refine r_aload_n h dX0_passYear_44 rfl 1 rfl ?_
    refine g_X0_51 h dX0_passYear_45 ht rC_46 ?_
    refine r_bipush h dX0_passYear_48 (by decide) ?_
    refine r_idivP h dX0_passYear_50 (hs3.1 _ _) (rIc rfl) (by decide) ?_
    refine r_iconst h dX0_passYear_51 ?_
    refine r_irem h dX0_passYear_52 (rI_tdivP (hs3.1 _ _) (by decide)) (rIc rfl) (by decide) ?_
    refine r_if_ne (tgt := 62) h dX0_passYear_53 (by decide) (rI_tmod (rI_tdivP (hs3.1 _ _) (by decide)) (rIc rfl)) (fun hc7 => ?_) (fun hc7 => ?_)
    · have hf := ite_f hc7 hf
      refine r_iconst h dX0_passYear_62 ?_
      refine r_iload_n h dX0_passYear_63 rfl 0 rfl ?_
      refine r_imul h dX0_passYear_64 ?_
      refine r_iconst h dX0_passYear_65 ?_
      refine r_iadd h dX0_passYear_66 ?_
      refine r_sub h [1, 0] rfl ?_
      exact b_Ea_passYear_67 h hr hw ht x6_ (iw ((iw (2 * x6_)) + 1)) s3 rx6_ (rI_iw _) hf
    · have hf := ite_nf hc7 hf
      refine r_iconst h dX0_passYear_56 ?_
      refine r_iload_n h dX0_passYear_57 rfl 0 rfl ?_
      refine r_imul h dX0_passYear_58 ?_
      refine r_goto (tgt := 67) h dX0_passYear_59 (by decide) ?_
      refine r_sub h [1, 0] rfl ?_
      exact b_Ea_passYear_67 h hr hw ht x6_ (iw (2 * x6_)) s3 rx6_ (rI_iw _) hf
  · have hf := ite_f hc2 hf
    refine r_iconst h dX0_passYear_10 ?_
    exact r_ret1 hr dX0_passYear_11 (rIc rfl) hf
set_option maxRecDepth 20000 in
theorem m_Ea_tellWalk {l : Launch} {D : va_G} {cs : Nat → ClassId} {aS aV : Nat} {A : Nat → Prop} {ad : Nat → Nat} {n : Nat} {nl : Nat → Nat → Bool} {out : Int × SS} (hw : w_WH n nl) (ht : 46 < n) {a1 : Int} (ra1 : rI a1) {s0 : SS} (hs0 : rS s0) (hf : f_Ea_tellWalk a1 s0 = some out) : w_MC l D cs aS aV A yX0_tellWalk cX0_tellWalk 2 1 rm_Ea_tellWalk ad n nl [.ref (ad 46), .int (vI a1)] s0 (w_Po ad n nl out) := by
  refine w_MC_of (by decide +kernel) (by decide) hs0 (Nat.le_of_ble_eq_true rfl) (fun K h hr => ?_)
  refine r_lv (lv' := [(0, .ref (ad 46)), (1, .int (vI a1))]) rfl ?_
  unfold f_Ea_tellWalk at hf
  refine r_rS h (fun hs0 => ?_)
  refine r_aload_n h dX0_tellWalk_0 rfl 0 rfl ?_
  refine g_X0_54 h dX0_tellWalk_1 ht rC_46 ?_
  refine r_if_ne (tgt := 9) h dX0_tellWalk_4 (by decide) (hs0.1 _ _) (fun hc1 => ?_) (fun hc1 => ?_)
  · have hf := ite_f hc1 hf
    refine r_iload_n h dX0_tellWalk_9 rfl 1 rfl ?_
    by_cases hc2 : a1 = 0
    · have hf := ite_t hc2 hf
      refine r_tableIn (tgt := 52) h dX0_tellWalk_10 hc2 (rIc rfl) (by decide) (by decide) (off := 42) rfl (by decide) ?_
      refine r_aload_n h dX0_tellWalk_52 rfl 0 rfl ?_
      refine g_X0_58 h dX0_tellWalk_53 ht rC_46 ?_
      exact r_ret1 hr dX0_tellWalk_56 (hs0.1 _ _) hf
    · have hf := ite_f hc2 hf
      by_cases hc3 : a1 = 1
      · have hf := ite_t hc3 hf
        refine r_tableIn (tgt := 57) h dX0_tellWalk_10 hc3 (rIc rfl) (by decide) (by decide) (off := 47) rfl (by decide) ?_
        refine r_aload_n h dX0_tellWalk_57 rfl 0 rfl ?_
        refine g_X0_61 h dX0_tellWalk_58 ht rC_46 ?_
        exact r_ret1 hr dX0_tellWalk_61 (hs0.1 _ _) hf
      · have hf := ite_f hc3 hf
        by_cases hc4 : a1 = 2
        · have hf := ite_t hc4 hf
          refine r_tableIn (tgt := 62) h dX0_tellWalk_10 hc4 (rIc rfl) (by decide) (by decide) (off := 52) rfl (by decide) ?_
          refine r_aload_n h dX0_tellWalk_62 rfl 0 rfl ?_
          refine g_X0_64 h dX0_tellWalk_63 ht rC_46 ?_
          exact r_ret1 hr dX0_tellWalk_66 (hs0.1 _ _) hf
        · have hf := ite_f hc4 hf
          by_cases hc5 : a1 = 3
          · have hf := ite_t hc5 hf
            refine r_tableIn (tgt := 67) h dX0_tellWalk_10 hc5 (rIc rfl) (by decide) (by decide) (off := 57) rfl (by decide) ?_
            refine r_aload_n h dX0_tellWalk_67 rfl 0 rfl ?_
            have hq6 := w_ref hw ht rC_46 (by decide) (k := 3) (by decide) rf_0_3
            refine g_X0_34 h dX0_tellWalk_68 ht rC_46 hq6.1 ?_
            refine g_X0_104 h dX0_tellWalk_71 hq6.2 rC_51 ?_
            exact r_ret1 hr dX0_tellWalk_74 (hs0.1 _ _) hf
          · have hf := ite_f hc5 hf
            by_cases hc7 : a1 = 4
            · have hf := ite_t hc7 hf
              refine r_tableIn (tgt := 75) h dX0_tellWalk_10 hc7 (rIc rfl) (by decide) (by decide) (off := 65) rfl (by decide) ?_
              refine r_aload_n h dX0_tellWalk_75 rfl 0 rfl ?_
              have hq8 := w_ref hw ht rC_46 (by decide) (k := 3) (by decide) rf_0_3
              refine g_X0_34 h dX0_tellWalk_76 ht rC_46 hq8.1 ?_
              refine g_X0_107 h dX0_tellWalk_79 hq8.2 rC_51 ?_
              exact r_ret1 hr dX0_tellWalk_82 (hs0.1 _ _) hf
            · have hf := ite_f hc7 hf
              by_cases hc9 : a1 = 5
              · have hf := ite_t hc9 hf
                refine r_tableIn (tgt := 83) h dX0_tellWalk_10 hc9 (rIc rfl) (by decide) (by decide) (off := 73) rfl (by decide) ?_
                refine r_aload_n h dX0_tellWalk_83 rfl 0 rfl ?_
                have hq10 := w_ref hw ht rC_46 (by decide) (k := 3) (by decide) rf_0_3
                refine g_X0_34 h dX0_tellWalk_84 ht rC_46 hq10.1 ?_
                refine g_X0_110 h dX0_tellWalk_87 hq10.2 rC_51 ?_
                exact r_ret1 hr dX0_tellWalk_90 (hs0.1 _ _) hf
              · have hf := ite_f hc9 hf
                by_cases hc11 : a1 = 6
                · have hf := ite_t hc11 hf
                  refine r_tableIn (tgt := 91) h dX0_tellWalk_10 hc11 (rIc rfl) (by decide) (by decide) (off := 81) rfl (by decide) ?_
                  refine r_aload_n h dX0_tellWalk_91 rfl 0 rfl ?_
                  have hq12 := w_ref hw ht rC_46 (by decide) (k := 3) (by decide) rf_0_3
                  refine g_X0_34 h dX0_tellWalk_92 ht rC_46 hq12.1 ?_
                  obtain ⟨r13, s13, hq13, hf⟩ := ob_some hf
                  refine r_callV2 h [] dX0_tellWalk_95 (fun hs => m_Ta_isOver hw hq12.2 rC_51 hs hq13) ml_X0_77 cv_Ta_isOver rfl (co := 9) rfl (by decide) hq12.2 rC_51 ⟨rfl, rfl⟩ ⟨Nat.le_of_ble_eq_true rfl, Nat.le_of_ble_eq_true rfl⟩ ⟨Nat.le_of_ble_eq_true rfl, Nat.le_of_ble_eq_true rfl⟩ (Nat.le_of_ble_eq_true rfl) rfl (fun hr13 hs13 => ?_)
                  refine r_if_eq (tgt := 105) h dX0_tellWalk_98 (by decide) (rI_b hr13) (fun hc14 => ?_) (fun hc14 => ?_)
                  · have hf := ite_t hc14 hf
                    refine r_iconst h dX0_tellWalk_105 ?_
                    exact r_ret1 hr dX0_tellWalk_106 (rIc rfl) hf
                  · have hf := ite_f hc14 hf
                    refine r_iconst h dX0_tellWalk_101 ?_
                    refine r_goto (tgt := 106) h dX0_tellWalk_102 (by decide) ?_
                    exact r_ret1 hr dX0_tellWalk_106 (rIc rfl) hf
                · have hf := ite_f hc11 hf
                  refine r_tableX (tgt := 107) h dX0_tellWalk_10 ra1 (by rcases (show a1 < 0 ∨ 6 < a1 from by omega) with q | q; exact Or.inl q; exact Or.inr (Or.inl q)) (by decide) ?_
                  refine r_iconst h dX0_tellWalk_107 ?_
                  exact r_ret1 hr dX0_tellWalk_108 (rIc rfl) hf
  · have hf := ite_nf hc1 hf
    refine r_iconst h dX0_tellWalk_7 ?_
    exact r_ret1 hr dX0_tellWalk_8 (rIc rfl) hf
set_option maxRecDepth 20000 in
theorem b_Ea_bring_72 {l : Launch} {D : va_G} {cs : Nat → ClassId} {aS aV : Nat} {A : Nat → Prop} {K : KT} {ad : Nat → Nat} {n : Nat} {nl : Nat → Nat → Bool} {out : Int × SS} (h : w_Cl l rm_Ea_bring D cs aS aV A cX0_bring 4 RX0 "bring" K) (hr : w_Rt 0 cX0_bring 0 0 (w_Po ad n nl out) K) (hw : w_WH n nl) (ht : 46 < n) {u1 : Nat} (pu1 : u1 < n) (pc1 : rC u1 = 14) (x3 : Int) (z1 : Int) (s0 : SS) (rx3 : rI x3) (rz1 : rI z1) (hf : j_Ea_bring_72 u1 x3 z1 s0 = some out) : K ad n nl 0 0 72 [(0, .ref (ad 46)), (1, .ref (ad u1)), (3, .int (vI x3))] [.int (vI z1), .ref (ad 46)] s0 := by
  unfold j_Ea_bring_72 at hf
  refine r_rS h (fun hs0 => ?_)
  obtain ⟨hb1, hf⟩ := oc_some hf
  refine p_X0_54 h dX0_bring_72 ht rC_46 hb1 ?_
  refine r_os hf (fun s2 hf => ?_)
  refine r_rS h (fun hs2 => ?_)
  refine r_aload_n h dX0_bring_75 rfl 0 rfl ?_
  refine r_aload_n h dX0_bring_76 rfl 1 rfl ?_
  refine r_iload_n h dX0_bring_77 rfl 2 rfl ?_
  refine r_iconst h dX0_bring_78 ?_
  refine r_iadd h dX0_bring_79 ?_
  obtain ⟨hi3, hf⟩ := oc_some hf
  refine r_iald h dX0_bring_80 pu1 pc1 (rI_iw _) rfl (j := (iw (x3 + 2)).toNat) rfl hi3 ?_
  refine p_X0_58 h dX0_bring_81 ht rC_46 (hs2.1 _ _) ?_
  refine r_os hf (fun s4 hf => ?_)
  refine r_rS h (fun hs4 => ?_)
  refine r_aload_n h dX0_bring_84 rfl 0 rfl ?_
  refine r_aload_n h dX0_bring_85 rfl 1 rfl ?_
  refine r_iload_n h dX0_bring_86 rfl 2 rfl ?_
  refine r_iconst h dX0_bring_87 ?_
  refine r_iadd h dX0_bring_88 ?_
  obtain ⟨hi5, hf⟩ := oc_some hf
  refine r_iald h dX0_bring_89 pu1 pc1 (rI_iw _) rfl (j := (iw (x3 + 3)).toNat) rfl hi5 ?_
  refine p_X0_61 h dX0_bring_90 ht rC_46 (hs4.1 _ _) ?_
  refine r_os hf (fun s6 hf => ?_)
  refine r_rS h (fun hs6 => ?_)
  refine r_aload_n h dX0_bring_93 rfl 0 rfl ?_
  refine r_aload_n h dX0_bring_94 rfl 1 rfl ?_
  refine r_iload_n h dX0_bring_95 rfl 2 rfl ?_
  refine r_iconst h dX0_bring_96 ?_
  refine r_iadd h dX0_bring_97 ?_
  obtain ⟨hi7, hf⟩ := oc_some hf
  refine r_iald h dX0_bring_98 pu1 pc1 (rI_iw _) rfl (j := (iw (x3 + 4)).toNat) rfl hi7 ?_
  refine p_X0_64 h dX0_bring_99 ht rC_46 (hs6.1 _ _) ?_
  refine r_os hf (fun s8 hf => ?_)
  refine r_rS h (fun hs8 => ?_)
  refine r_aload_n h dX0_bring_102 rfl 0 rfl ?_
  have hq9 := w_ref hw ht rC_46 (by decide) (k := 3) (by decide) rf_0_3
  refine g_X0_34 h dX0_bring_103 ht rC_46 hq9.1 ?_
  refine r_aload_n h dX0_bring_106 rfl 1 rfl ?_
  refine r_iload_n h dX0_bring_107 rfl 2 rfl ?_
  refine r_iconst h dX0_bring_108 ?_
  refine r_iadd h dX0_bring_109 ?_
  obtain ⟨r10, s10, hq10, hf⟩ := ob_some hf
  refine r_callV0 h [.ref (ad u1), .int (vI (iw (x3 + 5)))] dX0_bring_110 (fun hs => m_Ta_bring hw hq9.2 rC_51 pu1 pc1 (rI_iw _) hs hq10) ml_X0_137 cv_Ta_bring rfl (co := 9) rfl (by decide) hq9.2 rC_51 ⟨rfl, rfl⟩ ⟨Nat.le_of_ble_eq_true rfl, Nat.le_of_ble_eq_true rfl⟩ ⟨Nat.le_of_ble_eq_true rfl, Nat.le_of_ble_eq_true rfl⟩ (Nat.le_of_ble_eq_true rfl) rfl (fun hr10 hs10 => ?_)
  exact r_ret0 (x := 0) hr dX0_bring_113 hf
set_option maxRecDepth 20000 in
theorem b_Ea_bring_16 {l : Launch} {D : va_G} {cs : Nat → ClassId} {aS aV : Nat} {A : Nat → Prop} {K : KT} {ad : Nat → Nat} {n : Nat} {nl : Nat → Nat → Bool} {out : Int × SS} (h : w_Cl l rm_Ea_bring D cs aS aV A cX0_bring 4 RX0 "bring" K) (hr : w_Rt 0 cX0_bring 0 0 (w_Po ad n nl out) K) (hw : w_WH n nl) (ht : 46 < n) {u1 : Nat} (pu1 : u1 < n) (pc1 : rC u1 = 14) {y2 : Int} (ry2 : rI y2) : ∀ (fu : Nat) (x3 : Int) (s0 : SS), rI x3 → l_Ea_bring_16 u1 y2 fu x3 s0 = some out → K ad n nl 0 0 16 [(0, .ref (ad 46)), (1, .ref (ad u1)), (2, .int (vI y2)), (3, .int (vI x3))] [] s0 := by
  intro fu
  induction fu with
  | zero =>
    intro x3 s0 rx3 hf
    rw [l_Ea_bring_16] at hf
    cases hf
  | succ fu ih =>
    intro x3 s0 rx3 hf
    rw [l_Ea_bring_16] at hf
    refine r_rS h (fun hs0 => ?_)
    refine r_iload_n h dX0_bring_16 rfl 3 rfl ?_
    refine r_aload_n h dX0_bring_17 rfl 0 rfl ?_
    have hq1 := w_ref hw ht rC_46 (by decide) (k := 1) (by decide) rf_0_1
    refine g_X0_9 h dX0_bring_18 ht rC_46 hq1.1 ?_
    refine r_alen (N := 12) h dX0_bring_21 hq1.2 rC_47 (Or.inr (Or.inl rfl)) (by rw [rN_47]; rfl) ?_
    refine r_icmp_ge (tgt := 42) h dX0_bring_22 (by decide) rx3 (rIc rfl) (fun hc2 => ?_) (fun hc2 => ?_)
    · have hf := ite_t hc2 hf
      refine r_iload_n h dX0_bring_42 rfl 2 rfl ?_
      refine r_aload_n h dX0_bring_43 rfl 0 rfl ?_
      have hq3 := w_ref hw ht rC_46 (by decide) (k := 1) (by decide) rf_0_1
      refine g_X0_9 h dX0_bring_44 ht rC_46 hq3.1 ?_
      refine r_alen (N := 12) h dX0_bring_47 hq3.2 rC_47 (Or.inr (Or.inl rfl)) (by rw [rN_47]; rfl) ?_
      refine r_iadd h dX0_bring_48 ?_
      refine r_ol hf (rI_iw _) (fun x4_ rx4_ hf => ?_)
      refine r_istore_n h [(3, .int (vI x4_)), (0, .ref (ad 46)), (1, .ref (ad u1)), (2, .int (vI y2))] dX0_bring_49 rfl (by decide) rfl ?_
      refine r_aload_n h dX0_bring_50 rfl 1 rfl ?_
      refine r_aload_n h dX0_bring_51 rfl 2 rfl ?_
      refine r_iload_n h dX0_bring_52 rfl 0 rfl ?_
      obtain ⟨hi5, hf⟩ := oc_some hf
      refine r_iald h dX0_bring_53 pu1 pc1 rx4_ rfl (j := (x4_).toNat) rfl hi5 ?_
      refine p_X0_51 h dX0_bring_54 ht rC_46 (hs0.1 _ _) ?_
      refine r_os hf (fun s6 hf => ?_)
      refine r_rS h (fun hs6 => ?_)
      refine r_aload_n h dX0_bring_57 rfl 1 rfl ?_
      refine r_aload_n h dX0_bring_58 rfl 2 rfl ?_
      refine r_iload_n h dX0_bring_59 rfl 0 rfl ?_
      refine r_iconst h dX0_bring_60 ?_
      refine r_iadd h dX0_bring_61 ?_
      obtain ⟨hi7, hf⟩ := oc_some hf
      refine r_iald h dX0_bring_62 pu1 pc1 (rI_iw _) rfl (j := (iw (x4_ + 1)).toNat) rfl hi7 ?_
      refine r_iconst h dX0_bring_63 ?_
      refine r_icmp_ne (tgt := 71) h dX0_bring_64 (by decide) (hs6.1 _ _) (rIc rfl) (fun hc8 => ?_) (fun hc8 => ?_)
      · have hf := ite_f hc8 hf
        refine r_iconst h dX0_bring_71 ?_
        refine r_sub h [1, 2, 0] rfl ?_
        exact b_Ea_bring_72 h hr hw ht pu1 pc1 x4_ 0 s6 rx4_ (rIc rfl) hf
      · have hf := ite_nf hc8 hf
        refine r_iconst h dX0_bring_67 ?_
        refine r_goto (tgt := 72) h dX0_bring_68 (by decide) ?_
        refine r_sub h [1, 2, 0] rfl ?_
        exact b_Ea_bring_72 h hr hw ht pu1 pc1 x4_ 1 s6 rx4_ (rIc rfl) hf
    · have hf := ite_f hc2 hf
      refine r_aload_n h dX0_bring_25 rfl 0 rfl ?_
      have hq9 := w_ref hw ht rC_46 (by decide) (k := 1) (by decide) rf_0_1
      refine g_X0_9 h dX0_bring_26 ht rC_46 hq9.1 ?_
      refine r_iload_n h dX0_bring_29 rfl 3 rfl ?_
      refine r_aload_n h dX0_bring_30 rfl 1 rfl ?_
      refine r_iload_n h dX0_bring_31 rfl 2 rfl ?_
      refine r_iload_n h dX0_bring_32 rfl 3 rfl ?_
      refine r_iadd h dX0_bring_33 ?_
      obtain ⟨hi10, hf⟩ := oc_some hf
      refine r_iald h dX0_bring_34 pu1 pc1 (rI_iw _) rfl (j := (iw (y2 + x3)).toNat) rfl hi10 ?_
      obtain ⟨hi11, hf⟩ := oc_some hf
      refine r_iast h dX0_bring_35 hq9.2 rC_47 rx3 (N := 12) (by rw [rN_47]; rfl) (j := (x3).toNat) rfl hi11 (hs0.1 _ _) ?_
      refine r_os hf (fun s12 hf => ?_)
      refine r_rS h (fun hs12 => ?_)
      refine r_iinc h [(3, .int (vI (iw (x3 + 1)))), (0, .ref (ad 46)), (1, .ref (ad u1)), (2, .int (vI y2))] dX0_bring_36 3 rfl (by decide) rfl ?_
      refine r_goto (tgt := 16) h dX0_bring_39 (by decide) ?_
      refine r_sub h [1, 2, 3, 0] rfl ?_
      exact ih (iw (x3 + 1)) s12 (rI_iw _) hf
set_option maxRecDepth 20000 in
theorem m_Ea_bring {l : Launch} {D : va_G} {cs : Nat → ClassId} {aS aV : Nat} {A : Nat → Prop} {ad : Nat → Nat} {n : Nat} {nl : Nat → Nat → Bool} {out : Int × SS} (hw : w_WH n nl) (ht : 46 < n) {u1 : Nat} (pu1 : u1 < n) (pc1 : rC u1 = 14) {a2 : Int} (ra2 : rI a2) {s0 : SS} (hs0 : rS s0) (hf : f_Ea_bring u1 a2 s0 = some out) : w_MC l D cs aS aV A yX0_bring cX0_bring 4 0 rm_Ea_bring ad n nl [.ref (ad 46), .ref (ad u1), .int (vI a2)] s0 (w_Po ad n nl out) := by
  refine w_MC_of (by decide +kernel) (by decide) hs0 (Nat.le_of_ble_eq_true rfl) (fun K h hr => ?_)
  refine r_lv (lv' := [(0, .ref (ad 46)), (1, .ref (ad u1)), (2, .int (vI a2))]) rfl ?_
  unfold f_Ea_bring at hf
  refine r_rS h (fun hs0 => ?_)
  refine r_iload_n h dX0_bring_0 rfl 2 rfl ?_
  refine r_if_lt (tgt := 13) h dX0_bring_1 (by decide) ra2 (fun hc1 => ?_) (fun hc1 => ?_)
  · have hf := ite_t hc1 hf
    exact r_ret0 (x := 0) hr dX0_bring_13 hf
  · have hf := ite_f hc1 hf
    refine r_iload_n h dX0_bring_4 rfl 2 rfl ?_
    refine r_aload_n h dX0_bring_5 rfl 1 rfl ?_
    refine r_alen h dX0_bring_6 pu1 pc1 (Or.inr (Or.inl rfl)) rfl ?_
    refine r_bipush h dX0_bring_7 (by decide) ?_
    refine r_isub h dX0_bring_9 ?_
    refine r_icmp_le (tgt := 14) h dX0_bring_10 (by decide) ra2 (rI_iw _) (fun hc2 => ?_) (fun hc2 => ?_)
    · have hf := ite_t hc2 hf
      refine r_iconst h dX0_bring_14 ?_
      refine r_istore_n h [(3, .int (vI 0)), (0, .ref (ad 46)), (1, .ref (ad u1)), (2, .int (vI a2))] dX0_bring_15 rfl (by decide) rfl ?_
      refine r_sub h [1, 2, 3, 0] rfl ?_
      exact b_Ea_bring_16 h hr hw ht pu1 pc1 ra2 FU 0 s0 (rIc rfl) hf
    · have hf := ite_f hc2 hf
      exact r_ret0 (x := 0) hr dX0_bring_13 hf
set_option maxRecDepth 20000 in
theorem m_Ea_takeBack {l : Launch} {D : va_G} {cs : Nat → ClassId} {aS aV : Nat} {A : Nat → Prop} {ad : Nat → Nat} {n : Nat} {nl : Nat → Nat → Bool} {out : Int × SS} (hw : w_WH n nl) (ht : 46 < n) {s0 : SS} (hs0 : rS s0) (hf : f_Ea_takeBack s0 = some out) : w_MC l D cs aS aV A yX0_takeBack cX0_takeBack 1 2 rm_Ea_takeBack ad n nl [.ref (ad 46)] s0 (w_Po ad n nl out) := by
  refine w_MC_of (by decide +kernel) (by decide) hs0 (Nat.le_of_ble_eq_true rfl) (fun K h hr => ?_)
  refine r_lv (lv' := [(0, .ref (ad 46))]) rfl ?_
  unfold f_Ea_takeBack at hf
  refine r_rS h (fun hs0 => ?_)
  refine r_aload_n h dX0_takeBack_0 rfl 0 rfl ?_
  refine g_X0_113 h dX0_takeBack_1 ht rC_46 ?_
  refine r_if_gt (tgt := 9) h dX0_takeBack_4 (by decide) (hs0.1 _ _) (fun hc1 => ?_) (fun hc1 => ?_)
  · have hf := ite_t hc1 hf
    refine r_aload_n h dX0_takeBack_9 rfl 0 rfl ?_
    refine r_dup h dX0_takeBack_10 rfl ?_
    refine g_X0_113 h dX0_takeBack_11 ht rC_46 ?_
    refine r_iconst h dX0_takeBack_14 ?_
    refine r_isub h dX0_takeBack_15 ?_
    refine p_X0_113 h dX0_takeBack_16 ht rC_46 (rI_iw _) ?_
    refine r_os hf (fun s2 hf => ?_)
    refine r_rS h (fun hs2 => ?_)
    refine r_aload_n h dX0_takeBack_19 rfl 0 rfl ?_
    refine r_dup h dX0_takeBack_20 rfl ?_
    refine g_X0_116 h dX0_takeBack_21 ht rC_46 ?_
    refine r_iconst h dX0_takeBack_24 ?_
    refine r_iadd h dX0_takeBack_25 ?_
    refine p_X0_116 h dX0_takeBack_26 ht rC_46 (rI_iw _) ?_
    refine r_os hf (fun s3 hf => ?_)
    refine r_rS h (fun hs3 => ?_)
    refine r_aload_n h dX0_takeBack_29 rfl 0 rfl ?_
    refine r_aload_n h dX0_takeBack_30 rfl 0 rfl ?_
    have hq4 := w_ref hw ht rC_46 (by decide) (k := 8) (by decide) rf_0_8
    refine g_X0_15 h dX0_takeBack_31 ht rC_46 hq4.1 ?_
    refine r_aload_n h dX0_takeBack_34 rfl 0 rfl ?_
    obtain ⟨r5, s5, hq5, hf⟩ := ob_some hf
    refine r_callV1 h [] dX0_takeBack_35 (fun hs => m_Ea_slot hw ht hs hq5) ml_X0_119 cv_Ea_slot rfl (co := 0) rfl (by decide) ht rC_46 ⟨rfl, rfl⟩ ⟨Nat.le_of_ble_eq_true rfl, Nat.le_of_ble_eq_true rfl⟩ ⟨Nat.le_of_ble_eq_true rfl, Nat.le_of_ble_eq_true rfl⟩ (Nat.le_of_ble_eq_true rfl) rfl (fun hr5 hs5 => ?_)
    obtain ⟨r6, s6, hq6, hf⟩ := ob_some hf
    refine r_callV0 h [.ref (ad 48), .int (vI r5)] dX0_takeBack_38 (fun hs => m_Ea_bring hw ht hq4.2 rC_48 hr5 hs hq6) ml_X0_123 cv_Ea_bring rfl (co := 0) rfl (by decide) ht rC_46 ⟨rfl, rfl⟩ ⟨Nat.le_of_ble_eq_true rfl, Nat.le_of_ble_eq_true rfl⟩ ⟨Nat.le_of_ble_eq_true rfl, Nat.le_of_ble_eq_true rfl⟩ (Nat.le_of_ble_eq_true rfl) rfl (fun hr6 hs6 => ?_)
    refine r_iconst h dX0_takeBack_41 ?_
    exact r_ret2 hr dX0_takeBack_42 (Or.inr rfl) hf
  · have hf := ite_f hc1 hf
    refine r_iconst h dX0_takeBack_7 ?_
    exact r_ret2 hr dX0_takeBack_8 (Or.inl rfl) hf
set_option maxRecDepth 20000 in
theorem m_Ea_doAgain {l : Launch} {D : va_G} {cs : Nat → ClassId} {aS aV : Nat} {A : Nat → Prop} {ad : Nat → Nat} {n : Nat} {nl : Nat → Nat → Bool} {out : Int × SS} (hw : w_WH n nl) (ht : 46 < n) {s0 : SS} (hs0 : rS s0) (hf : f_Ea_doAgain s0 = some out) : w_MC l D cs aS aV A yX0_doAgain cX0_doAgain 1 2 rm_Ea_doAgain ad n nl [.ref (ad 46)] s0 (w_Po ad n nl out) := by
  refine w_MC_of (by decide +kernel) (by decide) hs0 (Nat.le_of_ble_eq_true rfl) (fun K h hr => ?_)
  refine r_lv (lv' := [(0, .ref (ad 46))]) rfl ?_
  unfold f_Ea_doAgain at hf
  refine r_rS h (fun hs0 => ?_)
  refine r_aload_n h dX0_doAgain_0 rfl 0 rfl ?_
  refine g_X0_116 h dX0_doAgain_1 ht rC_46 ?_
  refine r_if_gt (tgt := 9) h dX0_doAgain_4 (by decide) (hs0.1 _ _) (fun hc1 => ?_) (fun hc1 => ?_)
  · have hf := ite_t hc1 hf
    refine r_aload_n h dX0_doAgain_9 rfl 0 rfl ?_
    refine r_dup h dX0_doAgain_10 rfl ?_
    refine g_X0_113 h dX0_doAgain_11 ht rC_46 ?_
    refine r_iconst h dX0_doAgain_14 ?_
    refine r_iadd h dX0_doAgain_15 ?_
    refine p_X0_113 h dX0_doAgain_16 ht rC_46 (rI_iw _) ?_
    refine r_os hf (fun s2 hf => ?_)
    refine r_rS h (fun hs2 => ?_)
    refine r_aload_n h dX0_doAgain_19 rfl 0 rfl ?_
    refine r_dup h dX0_doAgain_20 rfl ?_
    refine g_X0_116 h dX0_doAgain_21 ht rC_46 ?_
    refine r_iconst h dX0_doAgain_24 ?_
    refine r_isub h dX0_doAgain_25 ?_
    refine p_X0_116 h dX0_doAgain_26 ht rC_46 (rI_iw _) ?_
    refine r_os hf (fun s3 hf => ?_)
    refine r_rS h (fun hs3 => ?_)
    refine r_aload_n h dX0_doAgain_29 rfl 0 rfl ?_
    refine r_aload_n h dX0_doAgain_30 rfl 0 rfl ?_
    have hq4 := w_ref hw ht rC_46 (by decide) (k := 8) (by decide) rf_0_8
    refine g_X0_15 h dX0_doAgain_31 ht rC_46 hq4.1 ?_
    refine r_aload_n h dX0_doAgain_34 rfl 0 rfl ?_
    obtain ⟨r5, s5, hq5, hf⟩ := ob_some hf
    refine r_callV1 h [] dX0_doAgain_35 (fun hs => m_Ea_slot hw ht hs hq5) ml_X0_119 cv_Ea_slot rfl (co := 0) rfl (by decide) ht rC_46 ⟨rfl, rfl⟩ ⟨Nat.le_of_ble_eq_true rfl, Nat.le_of_ble_eq_true rfl⟩ ⟨Nat.le_of_ble_eq_true rfl, Nat.le_of_ble_eq_true rfl⟩ (Nat.le_of_ble_eq_true rfl) rfl (fun hr5 hs5 => ?_)
    obtain ⟨r6, s6, hq6, hf⟩ := ob_some hf
    refine r_callV0 h [.ref (ad 48), .int (vI r5)] dX0_doAgain_38 (fun hs => m_Ea_bring hw ht hq4.2 rC_48 hr5 hs hq6) ml_X0_123 cv_Ea_bring rfl (co := 0) rfl (by decide) ht rC_46 ⟨rfl, rfl⟩ ⟨Nat.le_of_ble_eq_true rfl, Nat.le_of_ble_eq_true rfl⟩ ⟨Nat.le_of_ble_eq_true rfl, Nat.le_of_ble_eq_true rfl⟩ (Nat.le_of_ble_eq_true rfl) rfl (fun hr6 hs6 => ?_)
    refine r_iconst h dX0_doAgain_41 ?_
    exact r_ret2 hr dX0_doAgain_42 (Or.inr rfl) hf
  · have hf := ite_f hc1 hf
    refine r_iconst h dX0_doAgain_7 ?_
    exact r_ret2 hr dX0_doAgain_8 (Or.inl rfl) hf
set_option maxRecDepth 20000 in
theorem m_Ea_wordsInAll {l : Launch} {D : va_G} {cs : Nat → ClassId} {aS aV : Nat} {A : Nat → Prop} {ad : Nat → Nat} {n : Nat} {nl : Nat → Nat → Bool} {out : Int × SS} (hw : w_WH n nl) (ht : 46 < n) {s0 : SS} (hs0 : rS s0) (hf : f_Ea_wordsInAll s0 = some out) : w_MC l D cs aS aV A yX0_wordsInAll cX0_wordsInAll 1 1 rm_Ea_wordsInAll ad n nl [.ref (ad 46)] s0 (w_Po ad n nl out) := by
  refine w_MC_of (by decide +kernel) (by decide) hs0 (Nat.le_of_ble_eq_true rfl) (fun K h hr => ?_)
  refine r_lv (lv' := [(0, .ref (ad 46))]) rfl ?_
  unfold f_Ea_wordsInAll at hf
  refine r_rS h (fun hs0 => ?_)
  refine r_aload_n h dX0_wordsInAll_0 rfl 0 rfl ?_
  refine g_X0_54 h dX0_wordsInAll_1 ht rC_46 ?_
  refine r_if_eq (tgt := 17) h dX0_wordsInAll_4 (by decide) (hs0.1 _ _) (fun hc1 => ?_) (fun hc1 => ?_)
  · have hf := ite_t hc1 hf
    refine r_iconst h dX0_wordsInAll_17 ?_
    exact r_ret1 hr dX0_wordsInAll_18 (rIc rfl) hf
  · have hf := ite_f hc1 hf
    refine r_aload_n h dX0_wordsInAll_7 rfl 0 rfl ?_
    have hq2 := w_ref hw ht rC_46 (by decide) (k := 3) (by decide) rf_0_3
    refine g_X0_34 h dX0_wordsInAll_8 ht rC_46 hq2.1 ?_
    refine g_X0_104 h dX0_wordsInAll_11 hq2.2 rC_51 ?_
    refine r_goto (tgt := 18) h dX0_wordsInAll_14 (by decide) ?_
    exact r_ret1 hr dX0_wordsInAll_18 (hs0.1 _ _) hf
set_option maxRecDepth 20000 in
theorem m_Ea_keep {l : Launch} {D : va_G} {cs : Nat → ClassId} {aS aV : Nat} {A : Nat → Prop} {ad : Nat → Nat} {n : Nat} {nl : Nat → Nat → Bool} {out : Int × SS} (hw : w_WH n nl) (ht : 46 < n) {a1 : Int} (ra1 : rI a1) {s0 : SS} (hs0 : rS s0) (hf : f_Ea_keep a1 s0 = some out) : w_MC l D cs aS aV A yX0_keep cX0_keep 2 1 rm_Ea_keep ad n nl [.ref (ad 46), .int (vI a1)] s0 (w_Po ad n nl out) := by
  refine w_MC_of (by decide +kernel) (by decide) hs0 (Nat.le_of_ble_eq_true rfl) (fun K h hr => ?_)
  refine r_lv (lv' := [(0, .ref (ad 46)), (1, .int (vI a1))]) rfl ?_
  unfold f_Ea_keep at hf
  refine r_rS h (fun hs0 => ?_)
  refine r_iload_n h dX0_keep_0 rfl 1 rfl ?_
  refine r_if_lt (tgt := 9) h dX0_keep_1 (by decide) ra1 (fun hc1 => ?_) (fun hc1 => ?_)
  · have hf := ite_t hc1 hf
    refine r_iconst h dX0_keep_9 ?_
    exact r_ret1 hr dX0_keep_10 (rIc rfl) hf
  · have hf := ite_f hc1 hf
    refine r_iload_n h dX0_keep_4 rfl 1 rfl ?_
    refine r_iconst h dX0_keep_5 ?_
    refine r_icmp_lt (tgt := 11) h dX0_keep_6 (by decide) ra1 (rIc rfl) (fun hc2 => ?_) (fun hc2 => ?_)
    · have hf := ite_t hc2 hf
      refine r_aload_n h dX0_keep_11 rfl 0 rfl ?_
      have hq3 := w_ref hw ht rC_46 (by decide) (k := 13) (by decide) rf_0_13
      refine g_X0_21 h dX0_keep_12 ht rC_46 hq3.1 ?_
      refine r_iload_n h dX0_keep_15 rfl 1 rfl ?_
      refine r_iconst h dX0_keep_16 ?_
      obtain ⟨hi4, hf⟩ := oc_some hf
      refine r_zast h dX0_keep_17 hq3.2 rC_50 ra1 (N := 3) (by rw [rN_50]; rfl) (j := (a1).toNat) rfl hi4 (Or.inr rfl) ?_
      refine r_os hf (fun s5 hf => ?_)
      refine r_rS h (fun hs5 => ?_)
      refine r_aload_n h dX0_keep_18 rfl 0 rfl ?_
      refine r_aload_n h dX0_keep_19 rfl 0 rfl ?_
      have hq6 := w_ref hw ht rC_46 (by decide) (k := 12) (by decide) rf_0_12
      refine g_X0_18 h dX0_keep_20 ht rC_46 hq6.1 ?_
      refine r_iload_n h dX0_keep_23 rfl 1 rfl ?_
      refine r_bipush h dX0_keep_24 (by decide) ?_
      refine r_imul h dX0_keep_26 ?_
      obtain ⟨r7, s7, hq7, hf⟩ := ob_some hf
      refine r_callV0 h [.ref (ad 49), .int (vI (iw (a1 * 41)))] dX0_keep_27 (fun hs => m_Ea_put hw ht hq6.2 rC_49 (rI_iw _) hs hq7) ml_X0_127 cv_Ea_put rfl (co := 0) rfl (by decide) ht rC_46 ⟨rfl, rfl⟩ ⟨Nat.le_of_ble_eq_true rfl, Nat.le_of_ble_eq_true rfl⟩ ⟨Nat.le_of_ble_eq_true rfl, Nat.le_of_ble_eq_true rfl⟩ (Nat.le_of_ble_eq_true rfl) rfl (fun hr7 hs7 => ?_)
      refine r_aload_n h dX0_keep_30 rfl 0 rfl ?_
      obtain ⟨r8, s8, hq8, hf⟩ := ob_some hf
      refine r_callV1 h [] dX0_keep_31 (fun hs => m_Ea_wordsInAll hw ht hs hq8) ml_X0_130 cv_Ea_wordsInAll rfl (co := 0) rfl (by decide) ht rC_46 ⟨rfl, rfl⟩ ⟨Nat.le_of_ble_eq_true rfl, Nat.le_of_ble_eq_true rfl⟩ ⟨Nat.le_of_ble_eq_true rfl, Nat.le_of_ble_eq_true rfl⟩ (Nat.le_of_ble_eq_true rfl) rfl (fun hr8 hs8 => ?_)
      exact r_ret1 hr dX0_keep_34 hr8 hf
    · have hf := ite_f hc2 hf
      refine r_iconst h dX0_keep_9 ?_
      exact r_ret1 hr dX0_keep_10 (rIc rfl) hf
set_option maxRecDepth 20000 in
theorem m_Ea_goBack {l : Launch} {D : va_G} {cs : Nat → ClassId} {aS aV : Nat} {A : Nat → Prop} {ad : Nat → Nat} {n : Nat} {nl : Nat → Nat → Bool} {out : Int × SS} (hw : w_WH n nl) (ht : 46 < n) {a1 : Int} (ra1 : rI a1) {s0 : SS} (hs0 : rS s0) (hf : f_Ea_goBack a1 s0 = some out) : w_MC l D cs aS aV A yX0_goBack cX0_goBack 2 1 rm_Ea_goBack ad n nl [.ref (ad 46), .int (vI a1)] s0 (w_Po ad n nl out) := by
  refine w_MC_of (by decide +kernel) (by decide) hs0 (Nat.le_of_ble_eq_true rfl) (fun K h hr => ?_)
  refine r_lv (lv' := [(0, .ref (ad 46)), (1, .int (vI a1))]) rfl ?_
  unfold f_Ea_goBack at hf
  refine r_rS h (fun hs0 => ?_)
  refine r_iload_n h dX0_goBack_0 rfl 1 rfl ?_
  refine r_if_lt (tgt := 18) h dX0_goBack_1 (by decide) ra1 (fun hc1 => ?_) (fun hc1 => ?_)
  · have hf := ite_t hc1 hf
    refine r_iconst h dX0_goBack_18 ?_
    exact r_ret1 hr dX0_goBack_19 (rIc rfl) hf
  · have hf := ite_f hc1 hf
    refine r_iload_n h dX0_goBack_4 rfl 1 rfl ?_
    refine r_iconst h dX0_goBack_5 ?_
    refine r_icmp_ge (tgt := 18) h dX0_goBack_6 (by decide) ra1 (rIc rfl) (fun hc2 => ?_) (fun hc2 => ?_)
    · have hf := ite_t hc2 hf
      refine r_iconst h dX0_goBack_18 ?_
      exact r_ret1 hr dX0_goBack_19 (rIc rfl) hf
    · have hf := ite_f hc2 hf
      refine r_aload_n h dX0_goBack_9 rfl 0 rfl ?_
      have hq3 := w_ref hw ht rC_46 (by decide) (k := 13) (by decide) rf_0_13
      refine g_X0_21 h dX0_goBack_10 ht rC_46 hq3.1 ?_
      refine r_iload_n h dX0_goBack_13 rfl 1 rfl ?_
      obtain ⟨hi4, hf⟩ := oc_some hf
      refine r_zald h dX0_goBack_14 hq3.2 rC_50 ra1 (N := 3) (by rw [rN_50]; rfl) (j := (a1).toNat) rfl hi4 ?_
      refine r_if_ne (tgt := 20) h dX0_goBack_15 (by decide) (hs0.1 _ _) (fun hc5 => ?_) (fun hc5 => ?_)
      · have hf := ite_f hc5 hf
        refine r_aload_n h dX0_goBack_20 rfl 0 rfl ?_
        refine r_aload_n h dX0_goBack_21 rfl 0 rfl ?_
        have hq6 := w_ref hw ht rC_46 (by decide) (k := 12) (by decide) rf_0_12
        refine g_X0_18 h dX0_goBack_22 ht rC_46 hq6.1 ?_
        refine r_iload_n h dX0_goBack_25 rfl 1 rfl ?_
        refine r_bipush h dX0_goBack_26 (by decide) ?_
        refine r_imul h dX0_goBack_28 ?_
        obtain ⟨r7, s7, hq7, hf⟩ := ob_some hf
        refine r_callV0 h [.ref (ad 49), .int (vI (iw (a1 * 41)))] dX0_goBack_29 (fun hs => m_Ea_bring hw ht hq6.2 rC_49 (rI_iw _) hs hq7) ml_X0_123 cv_Ea_bring rfl (co := 0) rfl (by decide) ht rC_46 ⟨rfl, rfl⟩ ⟨Nat.le_of_ble_eq_true rfl, Nat.le_of_ble_eq_true rfl⟩ ⟨Nat.le_of_ble_eq_true rfl, Nat.le_of_ble_eq_true rfl⟩ (Nat.le_of_ble_eq_true rfl) rfl (fun hr7 hs7 => ?_)
        refine r_aload_n h dX0_goBack_32 rfl 0 rfl ?_
        obtain ⟨r8, s8, hq8, hf⟩ := ob_some hf
        refine r_callV0 h [] dX0_goBack_33 (fun hs => m_Ea_forgetActs hw ht hs hq8) ml_X0_67 cv_Ea_forgetActs rfl (co := 0) rfl (by decide) ht rC_46 ⟨rfl, rfl⟩ ⟨Nat.le_of_ble_eq_true rfl, Nat.le_of_ble_eq_true rfl⟩ ⟨Nat.le_of_ble_eq_true rfl, Nat.le_of_ble_eq_true rfl⟩ (Nat.le_of_ble_eq_true rfl) rfl (fun hr8 hs8 => ?_)
        refine r_aload_n h dX0_goBack_36 rfl 0 rfl ?_
        obtain ⟨r9, s9, hq9, hf⟩ := ob_some hf
        refine r_callV1 h [] dX0_goBack_37 (fun hs => m_Ea_wordsInAll hw ht hs hq9) ml_X0_130 cv_Ea_wordsInAll rfl (co := 0) rfl (by decide) ht rC_46 ⟨rfl, rfl⟩ ⟨Nat.le_of_ble_eq_true rfl, Nat.le_of_ble_eq_true rfl⟩ ⟨Nat.le_of_ble_eq_true rfl, Nat.le_of_ble_eq_true rfl⟩ (Nat.le_of_ble_eq_true rfl) rfl (fun hr9 hs9 => ?_)
        exact r_ret1 hr dX0_goBack_40 hr9 hf
      · have hf := ite_nf hc5 hf
        refine r_iconst h dX0_goBack_18 ?_
        exact r_ret1 hr dX0_goBack_19 (rIc rfl) hf
